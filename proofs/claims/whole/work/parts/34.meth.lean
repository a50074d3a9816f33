def F_X12_tells : ea_F := (ea_rm 10 0 0, cX12_tells, RX12, none, 6, [], 0, 0)
def D_X12_tells : List (Nat × Instr × Nat) := [(0, .sipush 359, 3), (3, .istore 5, 2), (5, .iload 5, 2), (7, .bipush 6, 2), (9, .if_icmp .lt 32, 3), (12, .aload_n 0, 1), (13, .getfield 13, 3), (16, .bipush 122, 2), (18, .iload 5, 2), (20, .iadd, 1), (21, .aload_n 0, 1), (22, .getfield 13, 3), (25, .bipush 122, 2), (27, .iload 5, 2), (29, .iadd, 1), (30, .bipush 6, 2), (32, .isub, 1), (33, .iaload, 1), (34, .iastore, 1), (35, .iinc 5 (-1), 3), (38, .goto (-33), 3), (41, .aload_n 0, 1), (42, .getfield 13, 3), (45, .bipush 122, 2), (47, .aload_n 0, 1), (48, .getfield 13, 3), (51, .iconst 5, 1), (52, .iaload, 1), (53, .iastore, 1), (54, .aload_n 0, 1), (55, .getfield 13, 3), (58, .bipush 123, 2), (60, .iload_n 1, 1), (61, .iastore, 1), (62, .aload_n 0, 1), (63, .getfield 13, 3), (66, .bipush 124, 2), (68, .iload_n 2, 1), (69, .iastore, 1), (70, .aload_n 0, 1), (71, .getfield 13, 3), (74, .bipush 125, 2), (76, .iload_n 3, 1), (77, .iastore, 1), (78, .aload_n 0, 1), (79, .getfield 13, 3), (82, .bipush 126, 2), (84, .iload 4, 2), (86, .iastore, 1), (87, .aload_n 0, 1), (88, .getfield 13, 3), (91, .bipush 127, 2), (93, .aload_n 0, 1), (94, .invokevirtual 420, 3), (97, .iastore, 1), (98, .aload_n 0, 1), (99, .getfield 13, 3), (102, .bipush 11, 2), (104, .bipush 60, 2), (106, .aload_n 0, 1), (107, .getfield 13, 3), (110, .bipush 11, 2), (112, .iaload, 1), (113, .iconst 1, 1), (114, .iadd, 1), (115, .invokestatic 295, 3), (118, .iastore, 1), (119, .return_, 1)]
theorem dt_X12_tells : ∀ q ∈ D_X12_tells, decode cX12_tells q.1 = .ok q.2 := by decide +kernel
theorem mv_X12_tells : ea_MV yX12_tells (F_X12_tells) 4 := ⟨⟨List.mem_append_right _ (List.mem_of_getElem? (i := 13) (by decide +kernel)), List.mem_append_right _ (List.mem_of_getElem? (i := 1941) (by decide +kernel)), ⟨by decide, by decide⟩, by decide +kernel⟩, List.mem_append_right _ (List.mem_of_getElem? (i := 1940) (by decide +kernel)), List.mem_append_left _ (List.mem_of_getElem? (i := 110) (by decide +kernel))⟩
def f_X12_tells_s5 (p1 : Int32) (p2 : Int32) (p3 : Int32) (p4 : Int32)  (s5 : Int32 × ea_M) : Option ((Int32 × ea_M) ⊕ (ea_M)) :=
  if s5.1 < 6 then
  some (.inr s5.2)
  else
  ea_bd ((122 + s5.1) - 6) fun x1 =>
  ea_g x1 2180 (ea_bd (s5.2 273 (Int32.toNatClampNeg x1)) fun x2 =>
  ea_g (122 + s5.1) 2180 (ea_bd (ea_st s5.2 273 (Int32.toNatClampNeg (122 + s5.1)) x2) fun m3 =>
  some (.inl (s5.1 + (-1), m3))))
def f_X12_tells (p1 : Int32) (p2 : Int32) (p3 : Int32) (p4 : Int32) (m : ea_M) : Option (Int32 × ea_M) :=
  (ea_loop (f_X12_tells_s5 p1 p2 p3 p4) ea_fuel (359, m)).bind (fun x5s =>
  ea_bd (x5s 273 5) fun x4 =>
  ea_bd (ea_st x5s 273 122 x4) fun m5 =>
  ea_bd (ea_st m5 273 123 p1) fun m6 =>
  ea_bd (ea_st m6 273 124 p2) fun m7 =>
  ea_bd (ea_st m7 273 125 p3) fun m8 =>
  ea_bd (ea_st m8 273 126 p4) fun m9 =>
  ea_cl (f_X12_goodFirst m9) fun r11 m10 =>
  ea_bd (ea_st m10 273 127 r11) fun m12 =>
  ea_bd (m12 273 11) fun x13 =>
  ea_bd (ea_min 60 (x13 + 1)) fun x14 =>
  ea_bd (ea_st m12 273 11 x14) fun m15 =>
  some (0, m15))
set_option maxHeartbeats 300000 in
theorem lp_X12_tells_5 (G : ea_G) {res : ea_O}  (p1 : Int32) (p2 : Int32) (p3 : Int32) (p4 : Int32)  {Ψ : ea_M → Prop} (hX : ∀ x5s : ea_M, Ψ x5s → ea_Ev G F_X12_tells res 41 [some (.ref 272), some (.int p1), some (.int p2), some (.int p3), some (.int p4), none] [] x5s 0 0) : ∀ (f : Nat) (s5 : Int32 × ea_M), ea_E G F_X12_tells res 5 [some (.ref 272), some (.int p1), some (.int p2), some (.int p3), some (.int p4), some (.int s5.1)] [] s5.2 0 0 (ea_loop (f_X12_tells_s5 p1 p2 p3 p4) f s5) Ψ := by
  refine ev_loop (G := G) (F := F_X12_tells) (res := res) (pc := 5) (st := []) (k := 0) (n := 0) (step := (f_X12_tells_s5 p1 p2 p3 p4)) (Ψ := Ψ) (fun (s5 : Int32 × ea_M) => [some (.ref 272), some (.int p1), some (.int p2), some (.int p3), some (.int p4), some (.int s5.1)]) (fun (s5 : Int32 × ea_M) => s5.2) (fun s5 => ?_)
  have hC : ∀ s5 : Int32 × ea_M, (Sum.elim (fun s5 : Int32 × ea_M => ea_Ev G F_X12_tells res 5 [some (.ref 272), some (.int p1), some (.int p2), some (.int p3), some (.int p4), some (.int s5.1)] [] s5.2 0 0) Ψ) (.inl s5) → ea_Ev G F_X12_tells res 5 [some (.ref 272), some (.int p1), some (.int p2), some (.int p3), some (.int p4), some (.int s5.1)] [] s5.2 0 0 := fun _ h => h
  have hX : ∀ x5s : ea_M, (Sum.elim (fun s5 : Int32 × ea_M => ea_Ev G F_X12_tells res 5 [some (.ref 272), some (.int p1), some (.int p2), some (.int p3), some (.int p4), some (.int s5.1)] [] s5.2 0 0) Ψ) (.inr x5s) → ea_Ev G F_X12_tells res 41 [some (.ref 272), some (.int p1), some (.int p2), some (.int p3), some (.int p4), none] [] x5s 0 0 := hX
  unfold f_X12_tells_s5
  refine ev_iload (ea_at dt_X12_tells 2 rfl) rfl ?_
  refine ev_bipush (ea_at dt_X12_tells 3 rfl) bp_6 ?_
  refine ev_icmp_lt (tgt := 41) (ea_at dt_X12_tells 4 rfl) rfl (fun _ => ?_) (fun _ => ?_)
  · exact ev_leaf (fun h => ea_drop (l' := [some (.ref 272), some (.int p1), some (.int p2), some (.int p3), some (.int p4), none]) ⟨Or.inr rfl, Or.inr rfl, Or.inr rfl, Or.inr rfl, Or.inr rfl, Or.inl rfl, trivial⟩ (hX s5.2 h))
  · refine ev_aload_n (ea_at dt_X12_tells 5 rfl) rfl ?_
    refine ev_getR (ea_at dt_X12_tells 6 rfl) fl_X12_13 sh_272 rfl ?_
    refine ev_bipush (ea_at dt_X12_tells 7 rfl) bp_122 ?_
    refine ev_iload (ea_at dt_X12_tells 8 rfl) rfl ?_
    refine ev_iadd (ea_at dt_X12_tells 9 rfl) ?_
    refine ev_aload_n (ea_at dt_X12_tells 10 rfl) rfl ?_
    refine ev_getR (ea_at dt_X12_tells 11 rfl) fl_X12_13 sh_272 rfl ?_
    refine ev_bipush (ea_at dt_X12_tells 12 rfl) bp_122 ?_
    refine ev_iload (ea_at dt_X12_tells 13 rfl) rfl ?_
    refine ev_iadd (ea_at dt_X12_tells 14 rfl) ?_
    refine ev_bipush (ea_at dt_X12_tells 15 rfl) bp_6 ?_
    refine ev_isub (ea_at dt_X12_tells 16 rfl) ?_
    refine ev_i (fun x1 => ?_)
    refine ev_iaload (ea_at dt_X12_tells 17 rfl) sh_273 (by decide) ?_
    refine ev_i (fun x2 => ?_)
    refine ev_iastore (ea_at dt_X12_tells 18 rfl) sh_273 (by decide) ?_
    refine ev_m (fun m3 => ?_)
    refine ev_iinc (ls' := [some (.ref 272), some (.int p1), some (.int p2), some (.int p3), some (.int p4), some (.int (s5.1 + (-1)))]) (ea_at dt_X12_tells 19 rfl) rfl (congrArg (fun z => _ + z) ic_m1) (ea_lt rfl) rfl ?_
    refine ev_goto (tgt := 5) (ea_at dt_X12_tells 20 rfl) rfl ?_
    exact ev_leaf (fun h => ea_drop (l' := [some (.ref 272), some (.int p1), some (.int p2), some (.int p3), some (.int p4), some (.int (s5.1 + (-1)))]) ⟨Or.inr rfl, Or.inr rfl, Or.inr rfl, Or.inr rfl, Or.inr rfl, Or.inr rfl, trivial⟩ (hC (s5.1 + (-1), m3) h))
set_option maxHeartbeats 300000 in
theorem ok_X12_tells (G : ea_G) (p1 : Int32) (p2 : Int32) (p3 : Int32) (p4 : Int32) (m : ea_M)  (rZ : Int32) (mZ : ea_M) (hZ : f_X12_tells p1 p2 p3 p4 m = some (rZ, mZ)) : ea_Met G yX12_tells F_X12_tells [.ref 272, .int p1, .int p2, .int p3, .int p4] m (0, rZ, mZ) := by
  refine ea_met (F := F_X12_tells) (by decide +kernel) rfl rfl (Nat.le_of_ble_eq_true rfl) (by simp only [List.mem_cons, List.not_mem_nil, or_false]; intro v hv; rcases hv with rfl | rfl | rfl | rfl | rfl <;> rfl) ((?_ : ea_E G F_X12_tells (0, rZ, mZ) 0 [some (.ref 272), some (.int p1), some (.int p2), some (.int p3), some (.int p4), none] [] m 0 0 (f_X12_tells p1 p2 p3 p4 m) (fun t => t = (rZ, mZ))) (rZ, mZ) hZ rfl)
  have hR : ∀ t : Int32 × ea_M, t = (rZ, mZ) → ((0, rZ, mZ) : ea_O) = (0, t) := fun t h => by rw [h]
  unfold f_X12_tells
  refine ev_sipush (ea_at dt_X12_tells 0 rfl) sp_359 ?_
  refine ev_istore (ls' := [some (.ref 272), some (.int p1), some (.int p2), some (.int p3), some (.int p4), some (.int 359)]) (ea_at dt_X12_tells 1 rfl) (ea_lt rfl) rfl ?_
  refine ev_drop (l' := [some (.ref 272), some (.int p1), some (.int p2), some (.int p3), some (.int p4), some (.int 359)]) ⟨Or.inr rfl, Or.inr rfl, Or.inr rfl, Or.inr rfl, Or.inr rfl, Or.inr rfl, trivial⟩ ?_
  refine ev_bind (lp_X12_tells_5 G p1 p2 p3 p4   (fun x5s h => ?_) ea_fuel (359, m))
  obtain ⟨t1, e1, q1⟩ := h
  refine (?_ : ea_E G F_X12_tells (0, rZ, mZ) 41 [some (.ref 272), some (.int p1), some (.int p2), some (.int p3), some (.int p4), none] [] x5s 0 0 _ (fun t => t = (rZ, mZ))) t1 e1 q1
  refine ev_aload_n (ea_at dt_X12_tells 21 rfl) rfl ?_
  refine ev_getR (ea_at dt_X12_tells 22 rfl) fl_X12_13 sh_272 rfl ?_
  refine ev_bipush (ea_at dt_X12_tells 23 rfl) bp_122 ?_
  refine ev_aload_n (ea_at dt_X12_tells 24 rfl) rfl ?_
  refine ev_getR (ea_at dt_X12_tells 25 rfl) fl_X12_13 sh_272 rfl ?_
  refine ev_iconst (ea_at dt_X12_tells 26 rfl) ic_5 ?_
  refine ev_ialoadC (j := 5) (ea_at dt_X12_tells 27 rfl) sh_273 (by decide) (by decide) (by decide) (by decide) ?_
  refine ev_i (fun x4 => ?_)
  refine ev_iastoreC (j := 122) (ea_at dt_X12_tells 28 rfl) sh_273 (by decide) (by decide) (by decide) (by decide) ?_
  refine ev_m (fun m5 => ?_)
  refine ev_aload_n (ea_at dt_X12_tells 29 rfl) rfl ?_
  refine ev_getR (ea_at dt_X12_tells 30 rfl) fl_X12_13 sh_272 rfl ?_
  refine ev_bipush (ea_at dt_X12_tells 31 rfl) bp_123 ?_
  refine ev_iload_n (ea_at dt_X12_tells 32 rfl) rfl ?_
  refine ev_iastoreC (j := 123) (ea_at dt_X12_tells 33 rfl) sh_273 (by decide) (by decide) (by decide) (by decide) ?_
  refine ev_m (fun m6 => ?_)
  refine ev_aload_n (ea_at dt_X12_tells 34 rfl) rfl ?_
  refine ev_getR (ea_at dt_X12_tells 35 rfl) fl_X12_13 sh_272 rfl ?_
  refine ev_bipush (ea_at dt_X12_tells 36 rfl) bp_124 ?_
  refine ev_iload_n (ea_at dt_X12_tells 37 rfl) rfl ?_
  refine ev_iastoreC (j := 124) (ea_at dt_X12_tells 38 rfl) sh_273 (by decide) (by decide) (by decide) (by decide) ?_
  refine ev_m (fun m7 => ?_)
  refine ev_aload_n (ea_at dt_X12_tells 39 rfl) rfl ?_
  refine ev_getR (ea_at dt_X12_tells 40 rfl) fl_X12_13 sh_272 rfl ?_
  refine ev_bipush (ea_at dt_X12_tells 41 rfl) bp_125 ?_
  refine ev_iload_n (ea_at dt_X12_tells 42 rfl) rfl ?_
  refine ev_iastoreC (j := 125) (ea_at dt_X12_tells 43 rfl) sh_273 (by decide) (by decide) (by decide) (by decide) ?_
  refine ev_m (fun m8 => ?_)
  refine ev_aload_n (ea_at dt_X12_tells 44 rfl) rfl ?_
  refine ev_getR (ea_at dt_X12_tells 45 rfl) fl_X12_13 sh_272 rfl ?_
  refine ev_bipush (ea_at dt_X12_tells 46 rfl) bp_126 ?_
  refine ev_iload (ea_at dt_X12_tells 47 rfl) rfl ?_
  refine ev_iastoreC (j := 126) (ea_at dt_X12_tells 48 rfl) sh_273 (by decide) (by decide) (by decide) (by decide) ?_
  refine ev_m (fun m9 => ?_)
  refine ev_aload_n (ea_at dt_X12_tells 49 rfl) rfl ?_
  refine ev_getR (ea_at dt_X12_tells 50 rfl) fl_X12_13 sh_272 rfl ?_
  refine ev_bipush (ea_at dt_X12_tells 51 rfl) bp_127 ?_
  refine ev_aload_n (ea_at dt_X12_tells 52 rfl) rfl ?_
  refine ev_clI (F1 := F_X12_goodFirst) (fun rY mY hY => ea_runV (As := []) (ea_at dt_X12_tells 53 rfl) ml_X12_420 mv_X12_goodFirst (ok_X12_goodFirst G m9  rY mY hY) sh_272 rfl rfl rfl (Nat.le_of_ble_eq_true rfl) rfl) rfl (fun r11 m10 => ?_)
  refine ev_iastoreC (j := 127) (ea_at dt_X12_tells 54 rfl) sh_273 (by decide) (by decide) (by decide) (by decide) ?_
  refine ev_m (fun m12 => ?_)
  refine ev_aload_n (ea_at dt_X12_tells 55 rfl) rfl ?_
  refine ev_getR (ea_at dt_X12_tells 56 rfl) fl_X12_13 sh_272 rfl ?_
  refine ev_bipush (ea_at dt_X12_tells 57 rfl) bp_11 ?_
  refine ev_bipush (ea_at dt_X12_tells 58 rfl) bp_60 ?_
  refine ev_aload_n (ea_at dt_X12_tells 59 rfl) rfl ?_
  refine ev_getR (ea_at dt_X12_tells 60 rfl) fl_X12_13 sh_272 rfl ?_
  refine ev_bipush (ea_at dt_X12_tells 61 rfl) bp_11 ?_
  refine ev_ialoadC (j := 11) (ea_at dt_X12_tells 62 rfl) sh_273 (by decide) (by decide) (by decide) (by decide) ?_
  refine ev_i (fun x13 => ?_)
  refine ev_iconst (ea_at dt_X12_tells 63 rfl) ic_1 ?_
  refine ev_iadd (ea_at dt_X12_tells 64 rfl) ?_
  refine ev_mmin (ea_at dt_X12_tells 65 rfl) ml_X12_295 ea_maW_min ⟨by decide, Nat.le_of_ble_eq_true rfl, by decide, by decide⟩ ?_
  refine ev_i (fun x14 => ?_)
  refine ev_iastoreC (j := 11) (ea_at dt_X12_tells 66 rfl) sh_273 (by decide) (by decide) (by decide) (by decide) ?_
  refine ev_m (fun m15 => ?_)
  exact ev_vret (ea_at dt_X12_tells 67 rfl) rfl ⟨by decide, by decide⟩ (fun h => ⟨0, hR _ h⟩)
def F_X12_call : ea_F := (ea_rm 16 0 0, cX12_call, RX12, some .int, 5, [], 0, 0)
def D_X12_call : List (Nat × Instr × Nat) := [(0, .aload_n 0, 1), (1, .iconst 0, 1), (2, .putfield 3, 3), (5, .aload_n 0, 1), (6, .aload_n 0, 1), (7, .iload_n 1, 1), (8, .invokevirtual 396, 3), (11, .ifCond .ne 19, 3), (14, .aload_n 0, 1), (15, .iload_n 2, 1), (16, .invokevirtual 303, 3), (19, .ifCond .ne 11, 3), (22, .aload_n 0, 1), (23, .iload_n 3, 1), (24, .invokevirtual 303, 3), (27, .ifCond .eq 7, 3), (30, .iconst 1, 1), (31, .goto 4, 3), (34, .iconst 0, 1), (35, .iconst 1, 1), (36, .invokevirtual 265, 3), (39, .ifCond .ne 50, 3), (42, .aload_n 0, 1), (43, .aload_n 0, 1), (44, .iload_n 1, 1), (45, .invokevirtual 407, 3), (48, .ifCond .eq 29, 3), (51, .aload_n 0, 1), (52, .iload_n 1, 1), (53, .iconst 0, 1), (54, .invokevirtual 399, 3), (57, .iload_n 2, 1), (58, .invokestatic 127, 3), (61, .ifCond .eq 16, 3), (64, .aload_n 0, 1), (65, .iload_n 1, 1), (66, .iconst 1, 1), (67, .invokevirtual 399, 3), (70, .iload_n 3, 1), (71, .invokestatic 127, 3), (74, .ifCond .ne 7, 3), (77, .iconst 1, 1), (78, .goto 4, 3), (81, .iconst 0, 1), (82, .iconst 2, 1), (83, .invokevirtual 265, 3), (86, .ifCond .eq 5, 3), (89, .iconst 0, 1), (90, .ireturn, 1), (91, .aload_n 0, 1), (92, .invokevirtual 423, 3), (95, .aload_n 0, 1), (96, .getfield 13, 3), (99, .aload_n 0, 1), (100, .iload_n 1, 1), (101, .iconst 0, 1), (102, .invokevirtual 387, 3), (105, .iload_n 2, 1), (106, .invokestatic 67, 3), (109, .dup2, 1), (110, .iaload, 1), (111, .iconst 1, 1), (112, .isub, 1), (113, .iastore, 1), (114, .aload_n 0, 1), (115, .getfield 13, 3), (118, .aload_n 0, 1), (119, .iload_n 1, 1), (120, .iconst 1, 1), (121, .invokevirtual 387, 3), (124, .iload_n 3, 1), (125, .invokestatic 67, 3), (128, .dup2, 1), (129, .iaload, 1), (130, .iconst 1, 1), (131, .isub, 1), (132, .iastore, 1), (133, .aload_n 0, 1), (134, .iload_n 2, 1), (135, .iload_n 3, 1), (136, .invokevirtual 426, 3), (139, .istore 4, 2), (141, .aload_n 0, 1), (142, .getfield 13, 3), (145, .iload_n 1, 1), (146, .iconst 3, 1), (147, .invokestatic 71, 3), (150, .iload 4, 2), (152, .iastore, 1), (153, .aload_n 0, 1), (154, .iload_n 1, 1), (155, .iload_n 2, 1), (156, .iload_n 3, 1), (157, .iload 4, 2), (159, .invokevirtual 429, 3), (162, .iload 4, 2), (164, .ireturn, 1)]
theorem dt_X12_call : ∀ q ∈ D_X12_call, decode cX12_call q.1 = .ok q.2 := by decide +kernel
theorem mv_X12_call : ea_MV yX12_call (F_X12_call) 3 := ⟨⟨List.mem_append_right _ (List.mem_of_getElem? (i := 13) (by decide +kernel)), List.mem_append_right _ (List.mem_of_getElem? (i := 1920) (by decide +kernel)), ⟨by decide, by decide⟩, by decide +kernel⟩, List.mem_append_right _ (List.mem_of_getElem? (i := 1918) (by decide +kernel)), List.mem_append_right _ (List.mem_of_getElem? (i := 1919) (by decide +kernel))⟩
def f_X12_call_j82 (p1 : Int32) (p2 : Int32) (p3 : Int32) (x15 : Int32) (m16 : ea_M) : Option (Int32 × ea_M) :=
  ea_cl (f_X12_throwsIf x15 2 m16) fun r18 m17 =>
  if r18 = 0 then
  ea_cl (f_X12_remembers m17) fun r20 m19 =>
  ea_cl (f_X12_ofCase p1 0 m19) fun r22 m21 =>
  ea_cl (f_X12_stockAt r22 p2 m21) fun r24 m23 =>
  ea_g r24 2180 (ea_bd (m23 273 (Int32.toNatClampNeg r24)) fun x25 =>
  ea_g r24 2180 (ea_bd (ea_st m23 273 (Int32.toNatClampNeg r24) (x25 - 1)) fun m26 =>
  ea_cl (f_X12_ofCase p1 1 m26) fun r28 m27 =>
  ea_cl (f_X12_stockAt r28 p3 m27) fun r30 m29 =>
  ea_g r30 2180 (ea_bd (m29 273 (Int32.toNatClampNeg r30)) fun x31 =>
  ea_g r30 2180 (ea_bd (ea_st m29 273 (Int32.toNatClampNeg r30) (x31 - 1)) fun m32 =>
  ea_cl (f_X12_called p2 p3 m32) fun r34 m33 =>
  ea_cl (f_X12_caseAt p1 3 m33) fun r36 m35 =>
  ea_g r36 2180 (ea_bd (ea_st m35 273 (Int32.toNatClampNeg r36) r34) fun m37 =>
  ea_cl (f_X12_tells p1 p2 p3 r34 m37) fun r39 m38 =>
  some (r34, m38))))))
  else
  some (0, m17)
def f_X12_call_j77 (p1 : Int32) (p2 : Int32) (p3 : Int32) (m14 : ea_M) : Option (Int32 × ea_M) :=
  f_X12_call_j82 p1 p2 p3 1 m14
def f_X12_call_j35 (p1 : Int32) (p2 : Int32) (p3 : Int32) (x8 : Int32) (m9 : ea_M) : Option (Int32 × ea_M) :=
  ea_cl (f_X12_throwsIf x8 1 m9) fun r11 m10 =>
  if r11 = 0 then
  ea_cl (f_X12_isOpen p1 m10) fun r13 m12 =>
  if r13 = 0 then
  f_X12_call_j77 p1 p2 p3 m12
  else
  ea_cl (f_X12_choices p1 0 m12) fun r41 m40 =>
  ea_cl (f_X12_has r41 p2 m40) fun r43 m42 =>
  if r43 = 0 then
  f_X12_call_j77 p1 p2 p3 m42
  else
  ea_cl (f_X12_choices p1 1 m42) fun r45 m44 =>
  ea_cl (f_X12_has r45 p3 m44) fun r47 m46 =>
  if r47 = 0 then
  f_X12_call_j77 p1 p2 p3 m46
  else
  f_X12_call_j82 p1 p2 p3 0 m46
  else
  some (0, m10)
def f_X12_call_j30 (p1 : Int32) (p2 : Int32) (p3 : Int32) (m48 : ea_M) : Option (Int32 × ea_M) :=
  f_X12_call_j35 p1 p2 p3 1 m48
def f_X12_call (p1 : Int32) (p2 : Int32) (p3 : Int32) (m : ea_M) : Option (Int32 × ea_M) :=
  ea_bd (ea_st m 272 0 0) fun m1 =>
  ea_cl (f_X12_noCase p1 m1) fun r3 m2 =>
  if r3 = 0 then
  ea_cl (f_X12_noBird p2 m2) fun r5 m4 =>
  if r5 = 0 then
  ea_cl (f_X12_noBird p3 m4) fun r7 m6 =>
  if r7 = 0 then
  f_X12_call_j35 p1 p2 p3 0 m6
  else
  f_X12_call_j30 p1 p2 p3 m6
  else
  f_X12_call_j30 p1 p2 p3 m4
  else
  f_X12_call_j30 p1 p2 p3 m2
set_option maxHeartbeats 300000 in
theorem jn_X12_call_82 (G : ea_G) {res : ea_O}  (p1 : Int32) (p2 : Int32) (p3 : Int32) (x15 : Int32) (m16 : ea_M)  {Φ : (Int32 × ea_M) → Prop} (hR : ∀ t : Int32 × ea_M, Φ t → res = (0, t)) : ea_E G F_X12_call res 82 [some (.ref 272), some (.int p1), some (.int p2), some (.int p3), none] [.int x15, .ref 272] m16 0 0 (f_X12_call_j82 p1 p2 p3 x15 m16) Φ := by
  unfold f_X12_call_j82
  refine ev_iconst (ea_at dt_X12_call 44 rfl) ic_2 ?_
  refine ev_clI (F1 := F_X12_throwsIf) (fun rY mY hY => ea_runV (As := [.int x15, .int 2]) (ea_at dt_X12_call 45 rfl) ml_X12_265 mv_X12_throwsIf (ok_X12_throwsIf G x15 2 m16  rY mY hY) sh_272 rfl rfl rfl (Nat.le_of_ble_eq_true rfl) rfl) rfl (fun r18 m17 => ?_)
  refine ev_if_eq (tgt := 91) (ea_at dt_X12_call 46 rfl) rfl (fun _ => ?_) (fun _ => ?_)
  · refine ev_aload_n (ea_at dt_X12_call 49 rfl) rfl ?_
    refine ev_clU (F1 := F_X12_remembers) (fun rY mY hY => ea_runV (As := []) (ea_at dt_X12_call 50 rfl) ml_X12_423 mv_X12_remembers (ok_X12_remembers G m17  rY mY hY) sh_272 rfl rfl rfl (Nat.le_of_ble_eq_true rfl) rfl) rfl (fun r20 m19 => ?_)
    refine ev_aload_n (ea_at dt_X12_call 51 rfl) rfl ?_
    refine ev_getR (ea_at dt_X12_call 52 rfl) fl_X12_13 sh_272 rfl ?_
    refine ev_aload_n (ea_at dt_X12_call 53 rfl) rfl ?_
    refine ev_iload_n (ea_at dt_X12_call 54 rfl) rfl ?_
    refine ev_iconst (ea_at dt_X12_call 55 rfl) ic_0 ?_
    refine ev_clI (F1 := F_X12_ofCase) (fun rY mY hY => ea_runV (As := [.int p1, .int 0]) (ea_at dt_X12_call 56 rfl) ml_X12_387 mv_X12_ofCase (ok_X12_ofCase G p1 0 m19  rY mY hY) sh_272 rfl rfl rfl (Nat.le_of_ble_eq_true rfl) rfl) rfl (fun r22 m21 => ?_)
    refine ev_iload_n (ea_at dt_X12_call 57 rfl) rfl ?_
    refine ev_clI (F1 := F_X12_stockAt) (fun rY mY hY => ea_runS (As := [.int r22, .int p2]) (ea_at dt_X12_call 58 rfl) ml_X12_67 mv_X12_stockAt (ok_X12_stockAt G r22 p2 m21  rY mY hY) rfl rfl (Nat.le_of_ble_eq_true rfl) rfl) rfl (fun r24 m23 => ?_)
    refine ev_dup2 (ea_at dt_X12_call 59 rfl) rfl rfl ?_
    refine ev_iaload (ea_at dt_X12_call 60 rfl) sh_273 (by decide) ?_
    refine ev_i (fun x25 => ?_)
    refine ev_iconst (ea_at dt_X12_call 61 rfl) ic_1 ?_
    refine ev_isub (ea_at dt_X12_call 62 rfl) ?_
    refine ev_iastore (ea_at dt_X12_call 63 rfl) sh_273 (by decide) ?_
    refine ev_m (fun m26 => ?_)
    refine ev_aload_n (ea_at dt_X12_call 64 rfl) rfl ?_
    refine ev_getR (ea_at dt_X12_call 65 rfl) fl_X12_13 sh_272 rfl ?_
    refine ev_aload_n (ea_at dt_X12_call 66 rfl) rfl ?_
    refine ev_iload_n (ea_at dt_X12_call 67 rfl) rfl ?_
    refine ev_iconst (ea_at dt_X12_call 68 rfl) ic_1 ?_
    refine ev_clI (F1 := F_X12_ofCase) (fun rY mY hY => ea_runV (As := [.int p1, .int 1]) (ea_at dt_X12_call 69 rfl) ml_X12_387 mv_X12_ofCase (ok_X12_ofCase G p1 1 m26  rY mY hY) sh_272 rfl rfl rfl (Nat.le_of_ble_eq_true rfl) rfl) rfl (fun r28 m27 => ?_)
    refine ev_iload_n (ea_at dt_X12_call 70 rfl) rfl ?_
    refine ev_clI (F1 := F_X12_stockAt) (fun rY mY hY => ea_runS (As := [.int r28, .int p3]) (ea_at dt_X12_call 71 rfl) ml_X12_67 mv_X12_stockAt (ok_X12_stockAt G r28 p3 m27  rY mY hY) rfl rfl (Nat.le_of_ble_eq_true rfl) rfl) rfl (fun r30 m29 => ?_)
    refine ev_dup2 (ea_at dt_X12_call 72 rfl) rfl rfl ?_
    refine ev_iaload (ea_at dt_X12_call 73 rfl) sh_273 (by decide) ?_
    refine ev_i (fun x31 => ?_)
    refine ev_iconst (ea_at dt_X12_call 74 rfl) ic_1 ?_
    refine ev_isub (ea_at dt_X12_call 75 rfl) ?_
    refine ev_iastore (ea_at dt_X12_call 76 rfl) sh_273 (by decide) ?_
    refine ev_m (fun m32 => ?_)
    refine ev_aload_n (ea_at dt_X12_call 77 rfl) rfl ?_
    refine ev_iload_n (ea_at dt_X12_call 78 rfl) rfl ?_
    refine ev_iload_n (ea_at dt_X12_call 79 rfl) rfl ?_
    refine ev_clI (F1 := F_X12_called) (fun rY mY hY => ea_runV (As := [.int p2, .int p3]) (ea_at dt_X12_call 80 rfl) ml_X12_426 mv_X12_called (ok_X12_called G p2 p3 m32  rY mY hY) sh_272 rfl rfl rfl (Nat.le_of_ble_eq_true rfl) rfl) rfl (fun r34 m33 => ?_)
    refine ev_istore (ls' := [some (.ref 272), some (.int p1), some (.int p2), some (.int p3), some (.int r34)]) (ea_at dt_X12_call 81 rfl) (ea_lt rfl) rfl ?_
    refine ev_aload_n (ea_at dt_X12_call 82 rfl) rfl ?_
    refine ev_getR (ea_at dt_X12_call 83 rfl) fl_X12_13 sh_272 rfl ?_
    refine ev_iload_n (ea_at dt_X12_call 84 rfl) rfl ?_
    refine ev_iconst (ea_at dt_X12_call 85 rfl) ic_3 ?_
    refine ev_clI (F1 := F_X12_caseAt) (fun rY mY hY => ea_runS (As := [.int p1, .int 3]) (ea_at dt_X12_call 86 rfl) ml_X12_71 mv_X12_caseAt (ok_X12_caseAt G p1 3 m33  rY mY hY) rfl rfl (Nat.le_of_ble_eq_true rfl) rfl) rfl (fun r36 m35 => ?_)
    refine ev_iload (ea_at dt_X12_call 87 rfl) rfl ?_
    refine ev_iastore (ea_at dt_X12_call 88 rfl) sh_273 (by decide) ?_
    refine ev_m (fun m37 => ?_)
    refine ev_aload_n (ea_at dt_X12_call 89 rfl) rfl ?_
    refine ev_iload_n (ea_at dt_X12_call 90 rfl) rfl ?_
    refine ev_iload_n (ea_at dt_X12_call 91 rfl) rfl ?_
    refine ev_iload_n (ea_at dt_X12_call 92 rfl) rfl ?_
    refine ev_iload (ea_at dt_X12_call 93 rfl) rfl ?_
    refine ev_clU (F1 := F_X12_tells) (fun rY mY hY => ea_runV (As := [.int p1, .int p2, .int p3, .int r34]) (ea_at dt_X12_call 94 rfl) ml_X12_429 mv_X12_tells (ok_X12_tells G p1 p2 p3 r34 m37  rY mY hY) sh_272 rfl rfl rfl (Nat.le_of_ble_eq_true rfl) rfl) rfl (fun r39 m38 => ?_)
    refine ev_iload (ea_at dt_X12_call 95 rfl) rfl ?_
    exact ev_iret (ea_at dt_X12_call 96 rfl) rfl ⟨by decide, by decide⟩ (fun h => hR _ h)
  · refine ev_iconst (ea_at dt_X12_call 47 rfl) ic_0 ?_
    exact ev_iret (ea_at dt_X12_call 48 rfl) rfl ⟨by decide, by decide⟩ (fun h => hR _ h)
set_option maxHeartbeats 300000 in
theorem jn_X12_call_77 (G : ea_G) {res : ea_O}  (p1 : Int32) (p2 : Int32) (p3 : Int32) (m14 : ea_M)  {Φ : (Int32 × ea_M) → Prop} (hR : ∀ t : Int32 × ea_M, Φ t → res = (0, t)) : ea_E G F_X12_call res 77 [some (.ref 272), some (.int p1), some (.int p2), some (.int p3), none] [.ref 272] m14 0 0 (f_X12_call_j77 p1 p2 p3 m14) Φ := by
  unfold f_X12_call_j77
  refine ev_iconst (ea_at dt_X12_call 41 rfl) ic_1 ?_
  refine ev_goto (tgt := 82) (ea_at dt_X12_call 42 rfl) rfl ?_
  exact ev_drop (l' := [some (.ref 272), some (.int p1), some (.int p2), some (.int p3), none]) ⟨Or.inr rfl, Or.inr rfl, Or.inr rfl, Or.inr rfl, Or.inl rfl, trivial⟩ (jn_X12_call_82 G p1 p2 p3 1 m14  hR)
set_option maxHeartbeats 300000 in
theorem jn_X12_call_35 (G : ea_G) {res : ea_O}  (p1 : Int32) (p2 : Int32) (p3 : Int32) (x8 : Int32) (m9 : ea_M)  {Φ : (Int32 × ea_M) → Prop} (hR : ∀ t : Int32 × ea_M, Φ t → res = (0, t)) : ea_E G F_X12_call res 35 [some (.ref 272), some (.int p1), some (.int p2), some (.int p3), none] [.int x8, .ref 272] m9 0 0 (f_X12_call_j35 p1 p2 p3 x8 m9) Φ := by
  unfold f_X12_call_j35
  refine ev_iconst (ea_at dt_X12_call 19 rfl) ic_1 ?_
  refine ev_clI (F1 := F_X12_throwsIf) (fun rY mY hY => ea_runV (As := [.int x8, .int 1]) (ea_at dt_X12_call 20 rfl) ml_X12_265 mv_X12_throwsIf (ok_X12_throwsIf G x8 1 m9  rY mY hY) sh_272 rfl rfl rfl (Nat.le_of_ble_eq_true rfl) rfl) rfl (fun r11 m10 => ?_)
  refine ev_if_ne (tgt := 89) (ea_at dt_X12_call 21 rfl) rfl (fun _ => ?_) (fun _ => ?_)
  · refine ev_aload_n (ea_at dt_X12_call 22 rfl) rfl ?_
    refine ev_aload_n (ea_at dt_X12_call 23 rfl) rfl ?_
    refine ev_iload_n (ea_at dt_X12_call 24 rfl) rfl ?_
    refine ev_clI (F1 := F_X12_isOpen) (fun rY mY hY => ea_runV (As := [.int p1]) (ea_at dt_X12_call 25 rfl) ml_X12_407 mv_X12_isOpen (ok_X12_isOpen G p1 m10  rY mY hY) sh_272 rfl rfl rfl (Nat.le_of_ble_eq_true rfl) rfl) rfl (fun r13 m12 => ?_)
    refine ev_if_eq (tgt := 77) (ea_at dt_X12_call 26 rfl) rfl (fun _ => ?_) (fun _ => ?_)
    · exact ev_drop (l' := [some (.ref 272), some (.int p1), some (.int p2), some (.int p3), none]) ⟨Or.inr rfl, Or.inr rfl, Or.inr rfl, Or.inr rfl, Or.inl rfl, trivial⟩ (jn_X12_call_77 G p1 p2 p3 m12  hR)
    · refine ev_aload_n (ea_at dt_X12_call 27 rfl) rfl ?_
      refine ev_iload_n (ea_at dt_X12_call 28 rfl) rfl ?_
      refine ev_iconst (ea_at dt_X12_call 29 rfl) ic_0 ?_
      refine ev_clI (F1 := F_X12_choices) (fun rY mY hY => ea_runV (As := [.int p1, .int 0]) (ea_at dt_X12_call 30 rfl) ml_X12_399 mv_X12_choices (ok_X12_choices G p1 0 m12  rY mY hY) sh_272 rfl rfl rfl (Nat.le_of_ble_eq_true rfl) rfl) rfl (fun r41 m40 => ?_)
      refine ev_iload_n (ea_at dt_X12_call 31 rfl) rfl ?_
      refine ev_clI (F1 := F_X12_has) (fun rY mY hY => ea_runS (As := [.int r41, .int p2]) (ea_at dt_X12_call 32 rfl) ml_X12_127 mv_X12_has (ok_X12_has G r41 p2 m40  rY mY hY) rfl rfl (Nat.le_of_ble_eq_true rfl) rfl) rfl (fun r43 m42 => ?_)
      refine ev_if_eq (tgt := 77) (ea_at dt_X12_call 33 rfl) rfl (fun _ => ?_) (fun _ => ?_)
      · exact ev_drop (l' := [some (.ref 272), some (.int p1), some (.int p2), some (.int p3), none]) ⟨Or.inr rfl, Or.inr rfl, Or.inr rfl, Or.inr rfl, Or.inl rfl, trivial⟩ (jn_X12_call_77 G p1 p2 p3 m42  hR)
      · refine ev_aload_n (ea_at dt_X12_call 34 rfl) rfl ?_
        refine ev_iload_n (ea_at dt_X12_call 35 rfl) rfl ?_
        refine ev_iconst (ea_at dt_X12_call 36 rfl) ic_1 ?_
        refine ev_clI (F1 := F_X12_choices) (fun rY mY hY => ea_runV (As := [.int p1, .int 1]) (ea_at dt_X12_call 37 rfl) ml_X12_399 mv_X12_choices (ok_X12_choices G p1 1 m42  rY mY hY) sh_272 rfl rfl rfl (Nat.le_of_ble_eq_true rfl) rfl) rfl (fun r45 m44 => ?_)
        refine ev_iload_n (ea_at dt_X12_call 38 rfl) rfl ?_
        refine ev_clI (F1 := F_X12_has) (fun rY mY hY => ea_runS (As := [.int r45, .int p3]) (ea_at dt_X12_call 39 rfl) ml_X12_127 mv_X12_has (ok_X12_has G r45 p3 m44  rY mY hY) rfl rfl (Nat.le_of_ble_eq_true rfl) rfl) rfl (fun r47 m46 => ?_)
        refine ev_if_ne (tgt := 81) (ea_at dt_X12_call 40 rfl) rfl (fun _ => ?_) (fun _ => ?_)
        · exact ev_drop (l' := [some (.ref 272), some (.int p1), some (.int p2), some (.int p3), none]) ⟨Or.inr rfl, Or.inr rfl, Or.inr rfl, Or.inr rfl, Or.inl rfl, trivial⟩ (jn_X12_call_77 G p1 p2 p3 m46  hR)
        · refine ev_iconst (ea_at dt_X12_call 43 rfl) ic_0 ?_
          exact ev_drop (l' := [some (.ref 272), some (.int p1), some (.int p2), some (.int p3), none]) ⟨Or.inr rfl, Or.inr rfl, Or.inr rfl, Or.inr rfl, Or.inl rfl, trivial⟩ (jn_X12_call_82 G p1 p2 p3 0 m46  hR)
  · refine ev_iconst (ea_at dt_X12_call 47 rfl) ic_0 ?_
    exact ev_iret (ea_at dt_X12_call 48 rfl) rfl ⟨by decide, by decide⟩ (fun h => hR _ h)
set_option maxHeartbeats 300000 in
theorem jn_X12_call_30 (G : ea_G) {res : ea_O}  (p1 : Int32) (p2 : Int32) (p3 : Int32) (m48 : ea_M)  {Φ : (Int32 × ea_M) → Prop} (hR : ∀ t : Int32 × ea_M, Φ t → res = (0, t)) : ea_E G F_X12_call res 30 [some (.ref 272), some (.int p1), some (.int p2), some (.int p3), none] [.ref 272] m48 0 0 (f_X12_call_j30 p1 p2 p3 m48) Φ := by
  unfold f_X12_call_j30
  refine ev_iconst (ea_at dt_X12_call 16 rfl) ic_1 ?_
  refine ev_goto (tgt := 35) (ea_at dt_X12_call 17 rfl) rfl ?_
  exact ev_drop (l' := [some (.ref 272), some (.int p1), some (.int p2), some (.int p3), none]) ⟨Or.inr rfl, Or.inr rfl, Or.inr rfl, Or.inr rfl, Or.inl rfl, trivial⟩ (jn_X12_call_35 G p1 p2 p3 1 m48  hR)
set_option maxHeartbeats 300000 in
theorem ok_X12_call (G : ea_G) (p1 : Int32) (p2 : Int32) (p3 : Int32) (m : ea_M)  (rZ : Int32) (mZ : ea_M) (hZ : f_X12_call p1 p2 p3 m = some (rZ, mZ)) : ea_Met G yX12_call F_X12_call [.ref 272, .int p1, .int p2, .int p3] m (0, rZ, mZ) := by
  refine ea_met (F := F_X12_call) (by decide +kernel) rfl rfl (Nat.le_of_ble_eq_true rfl) (by simp only [List.mem_cons, List.not_mem_nil, or_false]; intro v hv; rcases hv with rfl | rfl | rfl | rfl <;> rfl) ((?_ : ea_E G F_X12_call (0, rZ, mZ) 0 [some (.ref 272), some (.int p1), some (.int p2), some (.int p3), none] [] m 0 0 (f_X12_call p1 p2 p3 m) (fun t => t = (rZ, mZ))) (rZ, mZ) hZ rfl)
  have hR : ∀ t : Int32 × ea_M, t = (rZ, mZ) → ((0, rZ, mZ) : ea_O) = (0, t) := fun t h => by rw [h]
  unfold f_X12_call
  refine ev_aload_n (ea_at dt_X12_call 0 rfl) rfl ?_
  refine ev_iconst (ea_at dt_X12_call 1 rfl) ic_0 ?_
  refine ev_putI (ea_at dt_X12_call 2 rfl) fl_X12_3 fp_12_0 sh_272 rfl ?_
  refine ev_m (fun m1 => ?_)
  refine ev_aload_n (ea_at dt_X12_call 3 rfl) rfl ?_
  refine ev_aload_n (ea_at dt_X12_call 4 rfl) rfl ?_
  refine ev_iload_n (ea_at dt_X12_call 5 rfl) rfl ?_
  refine ev_clI (F1 := F_X12_noCase) (fun rY mY hY => ea_runV (As := [.int p1]) (ea_at dt_X12_call 6 rfl) ml_X12_396 mv_X12_noCase (ok_X12_noCase G p1 m1  rY mY hY) sh_272 rfl rfl rfl (Nat.le_of_ble_eq_true rfl) rfl) rfl (fun r3 m2 => ?_)
  refine ev_if_ne (tgt := 30) (ea_at dt_X12_call 7 rfl) rfl (fun _ => ?_) (fun _ => ?_)
  · refine ev_aload_n (ea_at dt_X12_call 8 rfl) rfl ?_
    refine ev_iload_n (ea_at dt_X12_call 9 rfl) rfl ?_
    refine ev_clI (F1 := F_X12_noBird) (fun rY mY hY => ea_runV (As := [.int p2]) (ea_at dt_X12_call 10 rfl) ml_X12_303 mv_X12_noBird (ok_X12_noBird G p2 m2  rY mY hY) sh_272 rfl rfl rfl (Nat.le_of_ble_eq_true rfl) rfl) rfl (fun r5 m4 => ?_)
    refine ev_if_ne (tgt := 30) (ea_at dt_X12_call 11 rfl) rfl (fun _ => ?_) (fun _ => ?_)
    · refine ev_aload_n (ea_at dt_X12_call 12 rfl) rfl ?_
      refine ev_iload_n (ea_at dt_X12_call 13 rfl) rfl ?_
      refine ev_clI (F1 := F_X12_noBird) (fun rY mY hY => ea_runV (As := [.int p3]) (ea_at dt_X12_call 14 rfl) ml_X12_303 mv_X12_noBird (ok_X12_noBird G p3 m4  rY mY hY) sh_272 rfl rfl rfl (Nat.le_of_ble_eq_true rfl) rfl) rfl (fun r7 m6 => ?_)
      refine ev_if_eq (tgt := 34) (ea_at dt_X12_call 15 rfl) rfl (fun _ => ?_) (fun _ => ?_)
      · refine ev_iconst (ea_at dt_X12_call 18 rfl) ic_0 ?_
        exact ev_drop (l' := [some (.ref 272), some (.int p1), some (.int p2), some (.int p3), none]) ⟨Or.inr rfl, Or.inr rfl, Or.inr rfl, Or.inr rfl, Or.inl rfl, trivial⟩ (jn_X12_call_35 G p1 p2 p3 0 m6  hR)
      · exact ev_drop (l' := [some (.ref 272), some (.int p1), some (.int p2), some (.int p3), none]) ⟨Or.inr rfl, Or.inr rfl, Or.inr rfl, Or.inr rfl, Or.inl rfl, trivial⟩ (jn_X12_call_30 G p1 p2 p3 m6  hR)
    · exact ev_drop (l' := [some (.ref 272), some (.int p1), some (.int p2), some (.int p3), none]) ⟨Or.inr rfl, Or.inr rfl, Or.inr rfl, Or.inr rfl, Or.inl rfl, trivial⟩ (jn_X12_call_30 G p1 p2 p3 m4  hR)
  · exact ev_drop (l' := [some (.ref 272), some (.int p1), some (.int p2), some (.int p3), none]) ⟨Or.inr rfl, Or.inr rfl, Or.inr rfl, Or.inr rfl, Or.inl rfl, trivial⟩ (jn_X12_call_30 G p1 p2 p3 m2  hR)
def F_X12_hour : ea_F := (ea_rm 9 0 0, cX12_hour, RX12, some .int, 3, [], 0, 0)
def D_X12_hour : List (Nat × Instr × Nat) := [(0, .aload_n 0, 1), (1, .iconst 0, 1), (2, .putfield 3, 3), (5, .aload_n 0, 1), (6, .iload_n 1, 1), (7, .iconst 0, 1), (8, .bipush 23, 2), (10, .invokestatic 78, 3), (13, .ifCond .ne 7, 3), (16, .iconst 1, 1), (17, .goto 4, 3), (20, .iconst 0, 1), (21, .iconst 1, 1), (22, .invokevirtual 265, 3), (25, .ifCond .eq 5, 3), (28, .iconst 0, 1), (29, .ireturn, 1), (30, .aload_n 0, 1), (31, .invokevirtual 423, 3), (34, .aload_n 0, 1), (35, .getfield 13, 3), (38, .bipush 6, 2), (40, .iaload, 1), (41, .istore_n 2, 1), (42, .aload_n 0, 1), (43, .getfield 13, 3), (46, .bipush 6, 2), (48, .iload_n 1, 1), (49, .iastore, 1), (50, .iload_n 2, 1), (51, .ireturn, 1)]
theorem dt_X12_hour : ∀ q ∈ D_X12_hour, decode cX12_hour q.1 = .ok q.2 := by decide +kernel
theorem mv_X12_hour : ea_MV yX12_hour (F_X12_hour) 1 := ⟨⟨List.mem_append_right _ (List.mem_of_getElem? (i := 13) (by decide +kernel)), List.mem_append_right _ (List.mem_of_getElem? (i := 1949) (by decide +kernel)), ⟨by decide, by decide⟩, by decide +kernel⟩, List.mem_append_right _ (List.mem_of_getElem? (i := 1947) (by decide +kernel)), List.mem_append_right _ (List.mem_of_getElem? (i := 1948) (by decide +kernel))⟩
def f_X12_hour_j21 (p1 : Int32) (x4 : Int32) (m5 : ea_M) : Option (Int32 × ea_M) :=
  ea_cl (f_X12_throwsIf x4 1 m5) fun r7 m6 =>
  if r7 = 0 then
  ea_cl (f_X12_remembers m6) fun r9 m8 =>
  ea_bd (m8 273 6) fun x10 =>
  ea_bd (ea_st m8 273 6 p1) fun m11 =>
  some (x10, m11)
  else
  some (0, m6)
def f_X12_hour (p1 : Int32) (m : ea_M) : Option (Int32 × ea_M) :=
  ea_bd (ea_st m 272 0 0) fun m1 =>
  ea_cl (f_X12_in p1 0 23 m1) fun r3 m2 =>
  if r3 = 0 then
  f_X12_hour_j21 p1 1 m2
  else
  f_X12_hour_j21 p1 0 m2
set_option maxHeartbeats 300000 in
theorem jn_X12_hour_21 (G : ea_G) {res : ea_O}  (p1 : Int32) (x4 : Int32) (m5 : ea_M)  {Φ : (Int32 × ea_M) → Prop} (hR : ∀ t : Int32 × ea_M, Φ t → res = (0, t)) : ea_E G F_X12_hour res 21 [some (.ref 272), some (.int p1), none] [.int x4, .ref 272] m5 0 0 (f_X12_hour_j21 p1 x4 m5) Φ := by
  unfold f_X12_hour_j21
  refine ev_iconst (ea_at dt_X12_hour 12 rfl) ic_1 ?_
  refine ev_clI (F1 := F_X12_throwsIf) (fun rY mY hY => ea_runV (As := [.int x4, .int 1]) (ea_at dt_X12_hour 13 rfl) ml_X12_265 mv_X12_throwsIf (ok_X12_throwsIf G x4 1 m5  rY mY hY) sh_272 rfl rfl rfl (Nat.le_of_ble_eq_true rfl) rfl) rfl (fun r7 m6 => ?_)
  refine ev_if_eq (tgt := 30) (ea_at dt_X12_hour 14 rfl) rfl (fun _ => ?_) (fun _ => ?_)
  · refine ev_aload_n (ea_at dt_X12_hour 17 rfl) rfl ?_
    refine ev_clU (F1 := F_X12_remembers) (fun rY mY hY => ea_runV (As := []) (ea_at dt_X12_hour 18 rfl) ml_X12_423 mv_X12_remembers (ok_X12_remembers G m6  rY mY hY) sh_272 rfl rfl rfl (Nat.le_of_ble_eq_true rfl) rfl) rfl (fun r9 m8 => ?_)
    refine ev_aload_n (ea_at dt_X12_hour 19 rfl) rfl ?_
    refine ev_getR (ea_at dt_X12_hour 20 rfl) fl_X12_13 sh_272 rfl ?_
    refine ev_bipush (ea_at dt_X12_hour 21 rfl) bp_6 ?_
    refine ev_ialoadC (j := 6) (ea_at dt_X12_hour 22 rfl) sh_273 (by decide) (by decide) (by decide) (by decide) ?_
    refine ev_i (fun x10 => ?_)
    refine ev_istore_n (ls' := [some (.ref 272), some (.int p1), some (.int x10)]) (ea_at dt_X12_hour 23 rfl) (ea_lt rfl) rfl ?_
    refine ev_aload_n (ea_at dt_X12_hour 24 rfl) rfl ?_
    refine ev_getR (ea_at dt_X12_hour 25 rfl) fl_X12_13 sh_272 rfl ?_
    refine ev_bipush (ea_at dt_X12_hour 26 rfl) bp_6 ?_
    refine ev_iload_n (ea_at dt_X12_hour 27 rfl) rfl ?_
    refine ev_iastoreC (j := 6) (ea_at dt_X12_hour 28 rfl) sh_273 (by decide) (by decide) (by decide) (by decide) ?_
    refine ev_m (fun m11 => ?_)
    refine ev_iload_n (ea_at dt_X12_hour 29 rfl) rfl ?_
    exact ev_iret (ea_at dt_X12_hour 30 rfl) rfl ⟨by decide, by decide⟩ (fun h => hR _ h)
  · refine ev_iconst (ea_at dt_X12_hour 15 rfl) ic_0 ?_
    exact ev_iret (ea_at dt_X12_hour 16 rfl) rfl ⟨by decide, by decide⟩ (fun h => hR _ h)
set_option maxHeartbeats 300000 in
theorem ok_X12_hour (G : ea_G) (p1 : Int32) (m : ea_M)  (rZ : Int32) (mZ : ea_M) (hZ : f_X12_hour p1 m = some (rZ, mZ)) : ea_Met G yX12_hour F_X12_hour [.ref 272, .int p1] m (0, rZ, mZ) := by
  refine ea_met (F := F_X12_hour) (by decide +kernel) rfl rfl (Nat.le_of_ble_eq_true rfl) (by simp only [List.mem_cons, List.not_mem_nil, or_false]; intro v hv; rcases hv with rfl | rfl <;> rfl) ((?_ : ea_E G F_X12_hour (0, rZ, mZ) 0 [some (.ref 272), some (.int p1), none] [] m 0 0 (f_X12_hour p1 m) (fun t => t = (rZ, mZ))) (rZ, mZ) hZ rfl)
  have hR : ∀ t : Int32 × ea_M, t = (rZ, mZ) → ((0, rZ, mZ) : ea_O) = (0, t) := fun t h => by rw [h]
  unfold f_X12_hour
  refine ev_aload_n (ea_at dt_X12_hour 0 rfl) rfl ?_
  refine ev_iconst (ea_at dt_X12_hour 1 rfl) ic_0 ?_
  refine ev_putI (ea_at dt_X12_hour 2 rfl) fl_X12_3 fp_12_0 sh_272 rfl ?_
  refine ev_m (fun m1 => ?_)
  refine ev_aload_n (ea_at dt_X12_hour 3 rfl) rfl ?_
  refine ev_iload_n (ea_at dt_X12_hour 4 rfl) rfl ?_
  refine ev_iconst (ea_at dt_X12_hour 5 rfl) ic_0 ?_
  refine ev_bipush (ea_at dt_X12_hour 6 rfl) bp_23 ?_
  refine ev_clI (F1 := F_X12_in) (fun rY mY hY => ea_runS (As := [.int p1, .int 0, .int 23]) (ea_at dt_X12_hour 7 rfl) ml_X12_78 mv_X12_in (ok_X12_in G p1 0 23 m1  rY mY hY) rfl rfl (Nat.le_of_ble_eq_true rfl) rfl) rfl (fun r3 m2 => ?_)
  refine ev_if_ne (tgt := 20) (ea_at dt_X12_hour 8 rfl) rfl (fun _ => ?_) (fun _ => ?_)
  · refine ev_iconst (ea_at dt_X12_hour 9 rfl) ic_1 ?_
    refine ev_goto (tgt := 21) (ea_at dt_X12_hour 10 rfl) rfl ?_
    exact ev_drop (l' := [some (.ref 272), some (.int p1), none]) ⟨Or.inr rfl, Or.inr rfl, Or.inl rfl, trivial⟩ (jn_X12_hour_21 G p1 1 m2  hR)
  · refine ev_iconst (ea_at dt_X12_hour 11 rfl) ic_0 ?_
    exact ev_drop (l' := [some (.ref 272), some (.int p1), none]) ⟨Or.inr rfl, Or.inr rfl, Or.inl rfl, trivial⟩ (jn_X12_hour_21 G p1 0 m2  hR)
def F_X12_blow : ea_F := (ea_rm 10 0 0, cX12_blow, RX12, some .int, 4, [], 0, 0)
def D_X12_blow : List (Nat × Instr × Nat) := [(0, .aload_n 0, 1), (1, .iconst 0, 1), (2, .putfield 3, 3), (5, .aload_n 0, 1), (6, .iload_n 1, 1), (7, .invokestatic 306, 3), (10, .iconst 1, 1), (11, .invokevirtual 265, 3), (14, .ifCond .ne 26, 3), (17, .aload_n 0, 1), (18, .iload_n 2, 1), (19, .bipush (-3), 2), (21, .iconst 3, 1), (22, .invokestatic 78, 3), (25, .ifCond .ne 7, 3), (28, .iconst 1, 1), (29, .goto 4, 3), (32, .iconst 0, 1), (33, .iconst 2, 1), (34, .invokevirtual 265, 3), (37, .ifCond .eq 5, 3), (40, .iconst 0, 1), (41, .ireturn, 1), (42, .aload_n 0, 1), (43, .invokevirtual 423, 3), (46, .aload_n 0, 1), (47, .getfield 13, 3), (50, .bipush 13, 2), (52, .iload_n 1, 1), (53, .iadd, 1), (54, .iaload, 1), (55, .istore_n 3, 1), (56, .aload_n 0, 1), (57, .getfield 13, 3), (60, .bipush 13, 2), (62, .iload_n 1, 1), (63, .iadd, 1), (64, .iload_n 2, 1), (65, .iastore, 1), (66, .iload_n 3, 1), (67, .ireturn, 1)]
theorem dt_X12_blow : ∀ q ∈ D_X12_blow, decode cX12_blow q.1 = .ok q.2 := by decide +kernel
theorem mv_X12_blow : ea_MV yX12_blow (F_X12_blow) 2 := ⟨⟨List.mem_append_right _ (List.mem_of_getElem? (i := 13) (by decide +kernel)), List.mem_append_right _ (List.mem_of_getElem? (i := 1953) (by decide +kernel)), ⟨by decide, by decide⟩, by decide +kernel⟩, List.mem_append_right _ (List.mem_of_getElem? (i := 1951) (by decide +kernel)), List.mem_append_right _ (List.mem_of_getElem? (i := 1952) (by decide +kernel))⟩
def f_X12_blow_j33 (p1 : Int32) (p2 : Int32) (x8 : Int32) (m9 : ea_M) : Option (Int32 × ea_M) :=
  ea_cl (f_X12_throwsIf x8 2 m9) fun r11 m10 =>
  if r11 = 0 then
  ea_cl (f_X12_remembers m10) fun r13 m12 =>
  ea_g (13 + p1) 2180 (ea_bd (m12 273 (Int32.toNatClampNeg (13 + p1))) fun x14 =>
  ea_g (13 + p1) 2180 (ea_bd (ea_st m12 273 (Int32.toNatClampNeg (13 + p1)) p2) fun m15 =>
  some (x14, m15)))
  else
  some (0, m10)
def f_X12_blow (p1 : Int32) (p2 : Int32) (m : ea_M) : Option (Int32 × ea_M) :=
  ea_bd (ea_st m 272 0 0) fun m1 =>
  ea_cl (f_X12_noLevel p1 m1) fun r3 m2 =>
  ea_cl (f_X12_throwsIf r3 1 m2) fun r5 m4 =>
  if r5 = 0 then
  ea_cl (f_X12_in p2 (-3) 3 m4) fun r7 m6 =>
  if r7 = 0 then
  f_X12_blow_j33 p1 p2 1 m6
  else
  f_X12_blow_j33 p1 p2 0 m6
  else
  some (0, m4)
set_option maxHeartbeats 300000 in
theorem jn_X12_blow_33 (G : ea_G) {res : ea_O}  (p1 : Int32) (p2 : Int32) (x8 : Int32) (m9 : ea_M)  {Φ : (Int32 × ea_M) → Prop} (hR : ∀ t : Int32 × ea_M, Φ t → res = (0, t)) : ea_E G F_X12_blow res 33 [some (.ref 272), some (.int p1), some (.int p2), none] [.int x8, .ref 272] m9 0 0 (f_X12_blow_j33 p1 p2 x8 m9) Φ := by
  unfold f_X12_blow_j33
  refine ev_iconst (ea_at dt_X12_blow 18 rfl) ic_2 ?_
  refine ev_clI (F1 := F_X12_throwsIf) (fun rY mY hY => ea_runV (As := [.int x8, .int 2]) (ea_at dt_X12_blow 19 rfl) ml_X12_265 mv_X12_throwsIf (ok_X12_throwsIf G x8 2 m9  rY mY hY) sh_272 rfl rfl rfl (Nat.le_of_ble_eq_true rfl) rfl) rfl (fun r11 m10 => ?_)
  refine ev_if_eq (tgt := 42) (ea_at dt_X12_blow 20 rfl) rfl (fun _ => ?_) (fun _ => ?_)
  · refine ev_aload_n (ea_at dt_X12_blow 23 rfl) rfl ?_
    refine ev_clU (F1 := F_X12_remembers) (fun rY mY hY => ea_runV (As := []) (ea_at dt_X12_blow 24 rfl) ml_X12_423 mv_X12_remembers (ok_X12_remembers G m10  rY mY hY) sh_272 rfl rfl rfl (Nat.le_of_ble_eq_true rfl) rfl) rfl (fun r13 m12 => ?_)
    refine ev_aload_n (ea_at dt_X12_blow 25 rfl) rfl ?_
    refine ev_getR (ea_at dt_X12_blow 26 rfl) fl_X12_13 sh_272 rfl ?_
    refine ev_bipush (ea_at dt_X12_blow 27 rfl) bp_13 ?_
    refine ev_iload_n (ea_at dt_X12_blow 28 rfl) rfl ?_
    refine ev_iadd (ea_at dt_X12_blow 29 rfl) ?_
    refine ev_iaload (ea_at dt_X12_blow 30 rfl) sh_273 (by decide) ?_
    refine ev_i (fun x14 => ?_)
    refine ev_istore_n (ls' := [some (.ref 272), some (.int p1), some (.int p2), some (.int x14)]) (ea_at dt_X12_blow 31 rfl) (ea_lt rfl) rfl ?_
    refine ev_aload_n (ea_at dt_X12_blow 32 rfl) rfl ?_
    refine ev_getR (ea_at dt_X12_blow 33 rfl) fl_X12_13 sh_272 rfl ?_
    refine ev_bipush (ea_at dt_X12_blow 34 rfl) bp_13 ?_
    refine ev_iload_n (ea_at dt_X12_blow 35 rfl) rfl ?_
    refine ev_iadd (ea_at dt_X12_blow 36 rfl) ?_
    refine ev_iload_n (ea_at dt_X12_blow 37 rfl) rfl ?_
    refine ev_iastore (ea_at dt_X12_blow 38 rfl) sh_273 (by decide) ?_
    refine ev_m (fun m15 => ?_)
    refine ev_iload_n (ea_at dt_X12_blow 39 rfl) rfl ?_
    exact ev_iret (ea_at dt_X12_blow 40 rfl) rfl ⟨by decide, by decide⟩ (fun h => hR _ h)
  · refine ev_iconst (ea_at dt_X12_blow 21 rfl) ic_0 ?_
    exact ev_iret (ea_at dt_X12_blow 22 rfl) rfl ⟨by decide, by decide⟩ (fun h => hR _ h)
set_option maxHeartbeats 300000 in
theorem ok_X12_blow (G : ea_G) (p1 : Int32) (p2 : Int32) (m : ea_M)  (rZ : Int32) (mZ : ea_M) (hZ : f_X12_blow p1 p2 m = some (rZ, mZ)) : ea_Met G yX12_blow F_X12_blow [.ref 272, .int p1, .int p2] m (0, rZ, mZ) := by
  refine ea_met (F := F_X12_blow) (by decide +kernel) rfl rfl (Nat.le_of_ble_eq_true rfl) (by simp only [List.mem_cons, List.not_mem_nil, or_false]; intro v hv; rcases hv with rfl | rfl | rfl <;> rfl) ((?_ : ea_E G F_X12_blow (0, rZ, mZ) 0 [some (.ref 272), some (.int p1), some (.int p2), none] [] m 0 0 (f_X12_blow p1 p2 m) (fun t => t = (rZ, mZ))) (rZ, mZ) hZ rfl)
  have hR : ∀ t : Int32 × ea_M, t = (rZ, mZ) → ((0, rZ, mZ) : ea_O) = (0, t) := fun t h => by rw [h]
  unfold f_X12_blow
  refine ev_aload_n (ea_at dt_X12_blow 0 rfl) rfl ?_
  refine ev_iconst (ea_at dt_X12_blow 1 rfl) ic_0 ?_
  refine ev_putI (ea_at dt_X12_blow 2 rfl) fl_X12_3 fp_12_0 sh_272 rfl ?_
  refine ev_m (fun m1 => ?_)
  refine ev_aload_n (ea_at dt_X12_blow 3 rfl) rfl ?_
  refine ev_iload_n (ea_at dt_X12_blow 4 rfl) rfl ?_
  refine ev_clI (F1 := F_X12_noLevel) (fun rY mY hY => ea_runS (As := [.int p1]) (ea_at dt_X12_blow 5 rfl) ml_X12_306 mv_X12_noLevel (ok_X12_noLevel G p1 m1  rY mY hY) rfl rfl (Nat.le_of_ble_eq_true rfl) rfl) rfl (fun r3 m2 => ?_)
  refine ev_iconst (ea_at dt_X12_blow 6 rfl) ic_1 ?_
  refine ev_clI (F1 := F_X12_throwsIf) (fun rY mY hY => ea_runV (As := [.int r3, .int 1]) (ea_at dt_X12_blow 7 rfl) ml_X12_265 mv_X12_throwsIf (ok_X12_throwsIf G r3 1 m2  rY mY hY) sh_272 rfl rfl rfl (Nat.le_of_ble_eq_true rfl) rfl) rfl (fun r5 m4 => ?_)
  refine ev_if_ne (tgt := 40) (ea_at dt_X12_blow 8 rfl) rfl (fun _ => ?_) (fun _ => ?_)
  · refine ev_aload_n (ea_at dt_X12_blow 9 rfl) rfl ?_
    refine ev_iload_n (ea_at dt_X12_blow 10 rfl) rfl ?_
    refine ev_bipush (ea_at dt_X12_blow 11 rfl) bp_m3 ?_
    refine ev_iconst (ea_at dt_X12_blow 12 rfl) ic_3 ?_
    refine ev_clI (F1 := F_X12_in) (fun rY mY hY => ea_runS (As := [.int p2, .int (-3), .int 3]) (ea_at dt_X12_blow 13 rfl) ml_X12_78 mv_X12_in (ok_X12_in G p2 (-3) 3 m4  rY mY hY) rfl rfl (Nat.le_of_ble_eq_true rfl) rfl) rfl (fun r7 m6 => ?_)
    refine ev_if_ne (tgt := 32) (ea_at dt_X12_blow 14 rfl) rfl (fun _ => ?_) (fun _ => ?_)
    · refine ev_iconst (ea_at dt_X12_blow 15 rfl) ic_1 ?_
      refine ev_goto (tgt := 33) (ea_at dt_X12_blow 16 rfl) rfl ?_
      exact ev_drop (l' := [some (.ref 272), some (.int p1), some (.int p2), none]) ⟨Or.inr rfl, Or.inr rfl, Or.inr rfl, Or.inl rfl, trivial⟩ (jn_X12_blow_33 G p1 p2 1 m6  hR)
    · refine ev_iconst (ea_at dt_X12_blow 17 rfl) ic_0 ?_
      exact ev_drop (l' := [some (.ref 272), some (.int p1), some (.int p2), none]) ⟨Or.inr rfl, Or.inr rfl, Or.inr rfl, Or.inl rfl, trivial⟩ (jn_X12_blow_33 G p1 p2 0 m6  hR)
  · refine ev_iconst (ea_at dt_X12_blow 21 rfl) ic_0 ?_
    exact ev_iret (ea_at dt_X12_blow 22 rfl) rfl ⟨by decide, by decide⟩ (fun h => hR _ h)
def F_X12_give : ea_F := (ea_rm 10 0 0, cX12_give, RX12, some .int, 5, [], 0, 0)
def D_X12_give : List (Nat × Instr × Nat) := [(0, .aload_n 0, 1), (1, .iconst 0, 1), (2, .putfield 3, 3), (5, .aload_n 0, 1), (6, .aload_n 0, 1), (7, .iload_n 1, 1), (8, .invokevirtual 393, 3), (11, .ifCond .ne 19, 3), (14, .aload_n 0, 1), (15, .iload_n 2, 1), (16, .invokevirtual 393, 3), (19, .ifCond .ne 11, 3), (22, .aload_n 0, 1), (23, .iload_n 3, 1), (24, .invokevirtual 303, 3), (27, .ifCond .eq 7, 3), (30, .iconst 1, 1), (31, .goto 4, 3), (34, .iconst 0, 1), (35, .iconst 1, 1), (36, .invokevirtual 265, 3), (39, .ifCond .ne 36, 3), (42, .aload_n 0, 1), (43, .iload_n 1, 1), (44, .iload_n 2, 1), (45, .if_icmp .eq 18, 3), (48, .iload 4, 2), (50, .iconst 1, 1), (51, .aload_n 0, 1), (52, .iload_n 1, 1), (53, .iload_n 3, 1), (54, .invokevirtual 390, 3), (57, .invokestatic 78, 3), (60, .ifCond .ne 7, 3), (63, .iconst 1, 1), (64, .goto 4, 3), (67, .iconst 0, 1), (68, .iconst 2, 1), (69, .invokevirtual 265, 3), (72, .ifCond .eq 5, 3), (75, .iconst 0, 1), (76, .ireturn, 1), (77, .aload_n 0, 1), (78, .invokevirtual 423, 3), (81, .aload_n 0, 1), (82, .getfield 13, 3), (85, .iload_n 1, 1), (86, .iload_n 3, 1), (87, .invokestatic 67, 3), (90, .dup2, 1), (91, .iaload, 1), (92, .iload 4, 2), (94, .isub, 1), (95, .iastore, 1), (96, .aload_n 0, 1), (97, .getfield 13, 3), (100, .iload_n 2, 1), (101, .iload_n 3, 1), (102, .invokestatic 67, 3), (105, .bipush 99, 2), (107, .aload_n 0, 1), (108, .iload_n 2, 1), (109, .iload_n 3, 1), (110, .invokevirtual 390, 3), (113, .iload 4, 2), (115, .iadd, 1), (116, .invokestatic 295, 3), (119, .iastore, 1), (120, .aload_n 0, 1), (121, .iload_n 2, 1), (122, .iload_n 3, 1), (123, .invokevirtual 390, 3), (126, .ireturn, 1)]
theorem dt_X12_give : ∀ q ∈ D_X12_give, decode cX12_give q.1 = .ok q.2 := by decide +kernel
theorem mv_X12_give : ea_MV yX12_give (F_X12_give) 4 := ⟨⟨List.mem_append_right _ (List.mem_of_getElem? (i := 13) (by decide +kernel)), List.mem_append_right _ (List.mem_of_getElem? (i := 1957) (by decide +kernel)), ⟨by decide, by decide⟩, by decide +kernel⟩, List.mem_append_right _ (List.mem_of_getElem? (i := 1955) (by decide +kernel)), List.mem_append_right _ (List.mem_of_getElem? (i := 1956) (by decide +kernel))⟩
def f_X12_give_j68 (p1 : Int32) (p2 : Int32) (p3 : Int32) (p4 : Int32) (x13 : Int32) (m14 : ea_M) : Option (Int32 × ea_M) :=
  ea_cl (f_X12_throwsIf x13 2 m14) fun r16 m15 =>
  if r16 = 0 then
  ea_cl (f_X12_remembers m15) fun r18 m17 =>
  ea_cl (f_X12_stockAt p1 p3 m17) fun r20 m19 =>
  ea_g r20 2180 (ea_bd (m19 273 (Int32.toNatClampNeg r20)) fun x21 =>
  ea_g r20 2180 (ea_bd (ea_st m19 273 (Int32.toNatClampNeg r20) (x21 - p4)) fun m22 =>
  ea_cl (f_X12_stockAt p2 p3 m22) fun r24 m23 =>
  ea_cl (f_X12_stockOf p2 p3 m23) fun r26 m25 =>
  ea_bd (ea_min 99 (r26 + p4)) fun x27 =>
  ea_g r24 2180 (ea_bd (ea_st m25 273 (Int32.toNatClampNeg r24) x27) fun m28 =>
  ea_cl (f_X12_stockOf p2 p3 m28) fun r30 m29 =>
  some (r30, m29))))
  else
  some (0, m15)
def f_X12_give_j63 (p1 : Int32) (p2 : Int32) (p3 : Int32) (p4 : Int32) (m12 : ea_M) : Option (Int32 × ea_M) :=
  f_X12_give_j68 p1 p2 p3 p4 1 m12
def f_X12_give_j35 (p1 : Int32) (p2 : Int32) (p3 : Int32) (p4 : Int32) (x8 : Int32) (m9 : ea_M) : Option (Int32 × ea_M) :=
  ea_cl (f_X12_throwsIf x8 1 m9) fun r11 m10 =>
  if r11 = 0 then
  if p1 = p2 then
  f_X12_give_j63 p1 p2 p3 p4 m10
  else
  ea_cl (f_X12_stockOf p1 p3 m10) fun r32 m31 =>
  ea_cl (f_X12_in p4 1 r32 m31) fun r34 m33 =>
  if r34 = 0 then
  f_X12_give_j63 p1 p2 p3 p4 m33
  else
  f_X12_give_j68 p1 p2 p3 p4 0 m33
  else
  some (0, m10)
def f_X12_give_j30 (p1 : Int32) (p2 : Int32) (p3 : Int32) (p4 : Int32) (m35 : ea_M) : Option (Int32 × ea_M) :=
  f_X12_give_j35 p1 p2 p3 p4 1 m35
def f_X12_give (p1 : Int32) (p2 : Int32) (p3 : Int32) (p4 : Int32) (m : ea_M) : Option (Int32 × ea_M) :=
  ea_bd (ea_st m 272 0 0) fun m1 =>
  ea_cl (f_X12_noCounsel p1 m1) fun r3 m2 =>
  if r3 = 0 then
  ea_cl (f_X12_noCounsel p2 m2) fun r5 m4 =>
  if r5 = 0 then
  ea_cl (f_X12_noBird p3 m4) fun r7 m6 =>
  if r7 = 0 then
  f_X12_give_j35 p1 p2 p3 p4 0 m6
  else
  f_X12_give_j30 p1 p2 p3 p4 m6
  else
  f_X12_give_j30 p1 p2 p3 p4 m4
  else
  f_X12_give_j30 p1 p2 p3 p4 m2
set_option maxHeartbeats 300000 in
theorem jn_X12_give_68 (G : ea_G) {res : ea_O}  (p1 : Int32) (p2 : Int32) (p3 : Int32) (p4 : Int32) (x13 : Int32) (m14 : ea_M)  {Φ : (Int32 × ea_M) → Prop} (hR : ∀ t : Int32 × ea_M, Φ t → res = (0, t)) : ea_E G F_X12_give res 68 [some (.ref 272), some (.int p1), some (.int p2), some (.int p3), some (.int p4)] [.int x13, .ref 272] m14 0 0 (f_X12_give_j68 p1 p2 p3 p4 x13 m14) Φ := by
  unfold f_X12_give_j68
  refine ev_iconst (ea_at dt_X12_give 37 rfl) ic_2 ?_
  refine ev_clI (F1 := F_X12_throwsIf) (fun rY mY hY => ea_runV (As := [.int x13, .int 2]) (ea_at dt_X12_give 38 rfl) ml_X12_265 mv_X12_throwsIf (ok_X12_throwsIf G x13 2 m14  rY mY hY) sh_272 rfl rfl rfl (Nat.le_of_ble_eq_true rfl) rfl) rfl (fun r16 m15 => ?_)
  refine ev_if_eq (tgt := 77) (ea_at dt_X12_give 39 rfl) rfl (fun _ => ?_) (fun _ => ?_)
  · refine ev_aload_n (ea_at dt_X12_give 42 rfl) rfl ?_
    refine ev_clU (F1 := F_X12_remembers) (fun rY mY hY => ea_runV (As := []) (ea_at dt_X12_give 43 rfl) ml_X12_423 mv_X12_remembers (ok_X12_remembers G m15  rY mY hY) sh_272 rfl rfl rfl (Nat.le_of_ble_eq_true rfl) rfl) rfl (fun r18 m17 => ?_)
    refine ev_aload_n (ea_at dt_X12_give 44 rfl) rfl ?_
    refine ev_getR (ea_at dt_X12_give 45 rfl) fl_X12_13 sh_272 rfl ?_
    refine ev_iload_n (ea_at dt_X12_give 46 rfl) rfl ?_
    refine ev_iload_n (ea_at dt_X12_give 47 rfl) rfl ?_
    refine ev_clI (F1 := F_X12_stockAt) (fun rY mY hY => ea_runS (As := [.int p1, .int p3]) (ea_at dt_X12_give 48 rfl) ml_X12_67 mv_X12_stockAt (ok_X12_stockAt G p1 p3 m17  rY mY hY) rfl rfl (Nat.le_of_ble_eq_true rfl) rfl) rfl (fun r20 m19 => ?_)
    refine ev_dup2 (ea_at dt_X12_give 49 rfl) rfl rfl ?_
    refine ev_iaload (ea_at dt_X12_give 50 rfl) sh_273 (by decide) ?_
    refine ev_i (fun x21 => ?_)
    refine ev_iload (ea_at dt_X12_give 51 rfl) rfl ?_
    refine ev_isub (ea_at dt_X12_give 52 rfl) ?_
    refine ev_iastore (ea_at dt_X12_give 53 rfl) sh_273 (by decide) ?_
    refine ev_m (fun m22 => ?_)
    refine ev_aload_n (ea_at dt_X12_give 54 rfl) rfl ?_
    refine ev_getR (ea_at dt_X12_give 55 rfl) fl_X12_13 sh_272 rfl ?_
    refine ev_iload_n (ea_at dt_X12_give 56 rfl) rfl ?_
    refine ev_iload_n (ea_at dt_X12_give 57 rfl) rfl ?_
    refine ev_clI (F1 := F_X12_stockAt) (fun rY mY hY => ea_runS (As := [.int p2, .int p3]) (ea_at dt_X12_give 58 rfl) ml_X12_67 mv_X12_stockAt (ok_X12_stockAt G p2 p3 m22  rY mY hY) rfl rfl (Nat.le_of_ble_eq_true rfl) rfl) rfl (fun r24 m23 => ?_)
    refine ev_bipush (ea_at dt_X12_give 59 rfl) bp_99 ?_
    refine ev_aload_n (ea_at dt_X12_give 60 rfl) rfl ?_
    refine ev_iload_n (ea_at dt_X12_give 61 rfl) rfl ?_
    refine ev_iload_n (ea_at dt_X12_give 62 rfl) rfl ?_
    refine ev_clI (F1 := F_X12_stockOf) (fun rY mY hY => ea_runV (As := [.int p2, .int p3]) (ea_at dt_X12_give 63 rfl) ml_X12_390 mv_X12_stockOf (ok_X12_stockOf G p2 p3 m23  rY mY hY) sh_272 rfl rfl rfl (Nat.le_of_ble_eq_true rfl) rfl) rfl (fun r26 m25 => ?_)
    refine ev_iload (ea_at dt_X12_give 64 rfl) rfl ?_
    refine ev_iadd (ea_at dt_X12_give 65 rfl) ?_
    refine ev_mmin (ea_at dt_X12_give 66 rfl) ml_X12_295 ea_maW_min ⟨by decide, Nat.le_of_ble_eq_true rfl, by decide, by decide⟩ ?_
    refine ev_i (fun x27 => ?_)
    refine ev_iastore (ea_at dt_X12_give 67 rfl) sh_273 (by decide) ?_
    refine ev_m (fun m28 => ?_)
    refine ev_aload_n (ea_at dt_X12_give 68 rfl) rfl ?_
    refine ev_iload_n (ea_at dt_X12_give 69 rfl) rfl ?_
    refine ev_iload_n (ea_at dt_X12_give 70 rfl) rfl ?_
    refine ev_clI (F1 := F_X12_stockOf) (fun rY mY hY => ea_runV (As := [.int p2, .int p3]) (ea_at dt_X12_give 71 rfl) ml_X12_390 mv_X12_stockOf (ok_X12_stockOf G p2 p3 m28  rY mY hY) sh_272 rfl rfl rfl (Nat.le_of_ble_eq_true rfl) rfl) rfl (fun r30 m29 => ?_)
    exact ev_iret (ea_at dt_X12_give 72 rfl) rfl ⟨by decide, by decide⟩ (fun h => hR _ h)
  · refine ev_iconst (ea_at dt_X12_give 40 rfl) ic_0 ?_
    exact ev_iret (ea_at dt_X12_give 41 rfl) rfl ⟨by decide, by decide⟩ (fun h => hR _ h)
set_option maxHeartbeats 300000 in
theorem jn_X12_give_63 (G : ea_G) {res : ea_O}  (p1 : Int32) (p2 : Int32) (p3 : Int32) (p4 : Int32) (m12 : ea_M)  {Φ : (Int32 × ea_M) → Prop} (hR : ∀ t : Int32 × ea_M, Φ t → res = (0, t)) : ea_E G F_X12_give res 63 [some (.ref 272), some (.int p1), some (.int p2), some (.int p3), some (.int p4)] [.ref 272] m12 0 0 (f_X12_give_j63 p1 p2 p3 p4 m12) Φ := by
  unfold f_X12_give_j63
  refine ev_iconst (ea_at dt_X12_give 34 rfl) ic_1 ?_
  refine ev_goto (tgt := 68) (ea_at dt_X12_give 35 rfl) rfl ?_
  exact ev_drop (l' := [some (.ref 272), some (.int p1), some (.int p2), some (.int p3), some (.int p4)]) ⟨Or.inr rfl, Or.inr rfl, Or.inr rfl, Or.inr rfl, Or.inr rfl, trivial⟩ (jn_X12_give_68 G p1 p2 p3 p4 1 m12  hR)
set_option maxHeartbeats 300000 in
theorem jn_X12_give_35 (G : ea_G) {res : ea_O}  (p1 : Int32) (p2 : Int32) (p3 : Int32) (p4 : Int32) (x8 : Int32) (m9 : ea_M)  {Φ : (Int32 × ea_M) → Prop} (hR : ∀ t : Int32 × ea_M, Φ t → res = (0, t)) : ea_E G F_X12_give res 35 [some (.ref 272), some (.int p1), some (.int p2), some (.int p3), some (.int p4)] [.int x8, .ref 272] m9 0 0 (f_X12_give_j35 p1 p2 p3 p4 x8 m9) Φ := by
  unfold f_X12_give_j35
  refine ev_iconst (ea_at dt_X12_give 19 rfl) ic_1 ?_
  refine ev_clI (F1 := F_X12_throwsIf) (fun rY mY hY => ea_runV (As := [.int x8, .int 1]) (ea_at dt_X12_give 20 rfl) ml_X12_265 mv_X12_throwsIf (ok_X12_throwsIf G x8 1 m9  rY mY hY) sh_272 rfl rfl rfl (Nat.le_of_ble_eq_true rfl) rfl) rfl (fun r11 m10 => ?_)
  refine ev_if_ne (tgt := 75) (ea_at dt_X12_give 21 rfl) rfl (fun _ => ?_) (fun _ => ?_)
  · refine ev_aload_n (ea_at dt_X12_give 22 rfl) rfl ?_
    refine ev_iload_n (ea_at dt_X12_give 23 rfl) rfl ?_
    refine ev_iload_n (ea_at dt_X12_give 24 rfl) rfl ?_
    refine ev_icmp_eq (tgt := 63) (ea_at dt_X12_give 25 rfl) rfl (fun _ => ?_) (fun _ => ?_)
    · exact ev_drop (l' := [some (.ref 272), some (.int p1), some (.int p2), some (.int p3), some (.int p4)]) ⟨Or.inr rfl, Or.inr rfl, Or.inr rfl, Or.inr rfl, Or.inr rfl, trivial⟩ (jn_X12_give_63 G p1 p2 p3 p4 m10  hR)
    · refine ev_iload (ea_at dt_X12_give 26 rfl) rfl ?_
      refine ev_iconst (ea_at dt_X12_give 27 rfl) ic_1 ?_
      refine ev_aload_n (ea_at dt_X12_give 28 rfl) rfl ?_
      refine ev_iload_n (ea_at dt_X12_give 29 rfl) rfl ?_
      refine ev_iload_n (ea_at dt_X12_give 30 rfl) rfl ?_
      refine ev_clI (F1 := F_X12_stockOf) (fun rY mY hY => ea_runV (As := [.int p1, .int p3]) (ea_at dt_X12_give 31 rfl) ml_X12_390 mv_X12_stockOf (ok_X12_stockOf G p1 p3 m10  rY mY hY) sh_272 rfl rfl rfl (Nat.le_of_ble_eq_true rfl) rfl) rfl (fun r32 m31 => ?_)
      refine ev_clI (F1 := F_X12_in) (fun rY mY hY => ea_runS (As := [.int p4, .int 1, .int r32]) (ea_at dt_X12_give 32 rfl) ml_X12_78 mv_X12_in (ok_X12_in G p4 1 r32 m31  rY mY hY) rfl rfl (Nat.le_of_ble_eq_true rfl) rfl) rfl (fun r34 m33 => ?_)
      refine ev_if_ne (tgt := 67) (ea_at dt_X12_give 33 rfl) rfl (fun _ => ?_) (fun _ => ?_)
      · exact ev_drop (l' := [some (.ref 272), some (.int p1), some (.int p2), some (.int p3), some (.int p4)]) ⟨Or.inr rfl, Or.inr rfl, Or.inr rfl, Or.inr rfl, Or.inr rfl, trivial⟩ (jn_X12_give_63 G p1 p2 p3 p4 m33  hR)
      · refine ev_iconst (ea_at dt_X12_give 36 rfl) ic_0 ?_
        exact ev_drop (l' := [some (.ref 272), some (.int p1), some (.int p2), some (.int p3), some (.int p4)]) ⟨Or.inr rfl, Or.inr rfl, Or.inr rfl, Or.inr rfl, Or.inr rfl, trivial⟩ (jn_X12_give_68 G p1 p2 p3 p4 0 m33  hR)
  · refine ev_iconst (ea_at dt_X12_give 40 rfl) ic_0 ?_
    exact ev_iret (ea_at dt_X12_give 41 rfl) rfl ⟨by decide, by decide⟩ (fun h => hR _ h)
set_option maxHeartbeats 300000 in
theorem jn_X12_give_30 (G : ea_G) {res : ea_O}  (p1 : Int32) (p2 : Int32) (p3 : Int32) (p4 : Int32) (m35 : ea_M)  {Φ : (Int32 × ea_M) → Prop} (hR : ∀ t : Int32 × ea_M, Φ t → res = (0, t)) : ea_E G F_X12_give res 30 [some (.ref 272), some (.int p1), some (.int p2), some (.int p3), some (.int p4)] [.ref 272] m35 0 0 (f_X12_give_j30 p1 p2 p3 p4 m35) Φ := by
  unfold f_X12_give_j30
  refine ev_iconst (ea_at dt_X12_give 16 rfl) ic_1 ?_
  refine ev_goto (tgt := 35) (ea_at dt_X12_give 17 rfl) rfl ?_
  exact ev_drop (l' := [some (.ref 272), some (.int p1), some (.int p2), some (.int p3), some (.int p4)]) ⟨Or.inr rfl, Or.inr rfl, Or.inr rfl, Or.inr rfl, Or.inr rfl, trivial⟩ (jn_X12_give_35 G p1 p2 p3 p4 1 m35  hR)
set_option maxHeartbeats 300000 in
theorem ok_X12_give (G : ea_G) (p1 : Int32) (p2 : Int32) (p3 : Int32) (p4 : Int32) (m : ea_M)  (rZ : Int32) (mZ : ea_M) (hZ : f_X12_give p1 p2 p3 p4 m = some (rZ, mZ)) : ea_Met G yX12_give F_X12_give [.ref 272, .int p1, .int p2, .int p3, .int p4] m (0, rZ, mZ) := by
  refine ea_met (F := F_X12_give) (by decide +kernel) rfl rfl (Nat.le_of_ble_eq_true rfl) (by simp only [List.mem_cons, List.not_mem_nil, or_false]; intro v hv; rcases hv with rfl | rfl | rfl | rfl | rfl <;> rfl) ((?_ : ea_E G F_X12_give (0, rZ, mZ) 0 [some (.ref 272), some (.int p1), some (.int p2), some (.int p3), some (.int p4)] [] m 0 0 (f_X12_give p1 p2 p3 p4 m) (fun t => t = (rZ, mZ))) (rZ, mZ) hZ rfl)
  have hR : ∀ t : Int32 × ea_M, t = (rZ, mZ) → ((0, rZ, mZ) : ea_O) = (0, t) := fun t h => by rw [h]
  unfold f_X12_give
  refine ev_aload_n (ea_at dt_X12_give 0 rfl) rfl ?_
  refine ev_iconst (ea_at dt_X12_give 1 rfl) ic_0 ?_
  refine ev_putI (ea_at dt_X12_give 2 rfl) fl_X12_3 fp_12_0 sh_272 rfl ?_
  refine ev_m (fun m1 => ?_)
  refine ev_aload_n (ea_at dt_X12_give 3 rfl) rfl ?_
  refine ev_aload_n (ea_at dt_X12_give 4 rfl) rfl ?_
  refine ev_iload_n (ea_at dt_X12_give 5 rfl) rfl ?_
  refine ev_clI (F1 := F_X12_noCounsel) (fun rY mY hY => ea_runV (As := [.int p1]) (ea_at dt_X12_give 6 rfl) ml_X12_393 mv_X12_noCounsel (ok_X12_noCounsel G p1 m1  rY mY hY) sh_272 rfl rfl rfl (Nat.le_of_ble_eq_true rfl) rfl) rfl (fun r3 m2 => ?_)
  refine ev_if_ne (tgt := 30) (ea_at dt_X12_give 7 rfl) rfl (fun _ => ?_) (fun _ => ?_)
  · refine ev_aload_n (ea_at dt_X12_give 8 rfl) rfl ?_
    refine ev_iload_n (ea_at dt_X12_give 9 rfl) rfl ?_
    refine ev_clI (F1 := F_X12_noCounsel) (fun rY mY hY => ea_runV (As := [.int p2]) (ea_at dt_X12_give 10 rfl) ml_X12_393 mv_X12_noCounsel (ok_X12_noCounsel G p2 m2  rY mY hY) sh_272 rfl rfl rfl (Nat.le_of_ble_eq_true rfl) rfl) rfl (fun r5 m4 => ?_)
    refine ev_if_ne (tgt := 30) (ea_at dt_X12_give 11 rfl) rfl (fun _ => ?_) (fun _ => ?_)
    · refine ev_aload_n (ea_at dt_X12_give 12 rfl) rfl ?_
      refine ev_iload_n (ea_at dt_X12_give 13 rfl) rfl ?_
      refine ev_clI (F1 := F_X12_noBird) (fun rY mY hY => ea_runV (As := [.int p3]) (ea_at dt_X12_give 14 rfl) ml_X12_303 mv_X12_noBird (ok_X12_noBird G p3 m4  rY mY hY) sh_272 rfl rfl rfl (Nat.le_of_ble_eq_true rfl) rfl) rfl (fun r7 m6 => ?_)
      refine ev_if_eq (tgt := 34) (ea_at dt_X12_give 15 rfl) rfl (fun _ => ?_) (fun _ => ?_)
      · refine ev_iconst (ea_at dt_X12_give 18 rfl) ic_0 ?_
        exact ev_drop (l' := [some (.ref 272), some (.int p1), some (.int p2), some (.int p3), some (.int p4)]) ⟨Or.inr rfl, Or.inr rfl, Or.inr rfl, Or.inr rfl, Or.inr rfl, trivial⟩ (jn_X12_give_35 G p1 p2 p3 p4 0 m6  hR)
      · exact ev_drop (l' := [some (.ref 272), some (.int p1), some (.int p2), some (.int p3), some (.int p4)]) ⟨Or.inr rfl, Or.inr rfl, Or.inr rfl, Or.inr rfl, Or.inr rfl, trivial⟩ (jn_X12_give_30 G p1 p2 p3 p4 m6  hR)
    · exact ev_drop (l' := [some (.ref 272), some (.int p1), some (.int p2), some (.int p3), some (.int p4)]) ⟨Or.inr rfl, Or.inr rfl, Or.inr rfl, Or.inr rfl, Or.inr rfl, trivial⟩ (jn_X12_give_30 G p1 p2 p3 p4 m4  hR)
  · exact ev_drop (l' := [some (.ref 272), some (.int p1), some (.int p2), some (.int p3), some (.int p4)]) ⟨Or.inr rfl, Or.inr rfl, Or.inr rfl, Or.inr rfl, Or.inr rfl, trivial⟩ (jn_X12_give_30 G p1 p2 p3 p4 m2  hR)
def F_X12_appeal : ea_F := (ea_rm 11 0 0, cX12_appeal, RX12, some .int, 3, [], 0, 0)
def D_X12_appeal : List (Nat × Instr × Nat) := [(0, .aload_n 0, 1), (1, .iconst 0, 1), (2, .putfield 3, 3), (5, .aload_n 0, 1), (6, .aload_n 0, 1), (7, .iload_n 1, 1), (8, .invokevirtual 396, 3), (11, .iconst 1, 1), (12, .invokevirtual 265, 3), (15, .ifCond .ne 16, 3), (18, .aload_n 0, 1), (19, .aload_n 0, 1), (20, .iload_n 1, 1), (21, .invokevirtual 407, 3), (24, .iconst 2, 1), (25, .invokevirtual 265, 3), (28, .ifCond .eq 5, 3), (31, .iconst 0, 1), (32, .ireturn, 1), (33, .aload_n 0, 1), (34, .invokevirtual 423, 3), (37, .aload_n 0, 1), (38, .iload_n 1, 1), (39, .iconst 3, 1), (40, .invokevirtual 387, 3), (43, .istore_n 2, 1), (44, .aload_n 0, 1), (45, .getfield 13, 3), (48, .iload_n 1, 1), (49, .iconst 3, 1), (50, .invokestatic 71, 3), (53, .iconst 0, 1), (54, .iastore, 1), (55, .iload_n 2, 1), (56, .ireturn, 1)]
theorem dt_X12_appeal : ∀ q ∈ D_X12_appeal, decode cX12_appeal q.1 = .ok q.2 := by decide +kernel
theorem mv_X12_appeal : ea_MV yX12_appeal (F_X12_appeal) 1 := ⟨⟨List.mem_append_right _ (List.mem_of_getElem? (i := 13) (by decide +kernel)), List.mem_append_right _ (List.mem_of_getElem? (i := 1961) (by decide +kernel)), ⟨by decide, by decide⟩, by decide +kernel⟩, List.mem_append_right _ (List.mem_of_getElem? (i := 1959) (by decide +kernel)), List.mem_append_right _ (List.mem_of_getElem? (i := 1960) (by decide +kernel))⟩
def f_X12_appeal (p1 : Int32) (m : ea_M) : Option (Int32 × ea_M) :=
  ea_bd (ea_st m 272 0 0) fun m1 =>
  ea_cl (f_X12_noCase p1 m1) fun r3 m2 =>
  ea_cl (f_X12_throwsIf r3 1 m2) fun r5 m4 =>
  if r5 = 0 then
  ea_cl (f_X12_isOpen p1 m4) fun r7 m6 =>
  ea_cl (f_X12_throwsIf r7 2 m6) fun r9 m8 =>
  if r9 = 0 then
  ea_cl (f_X12_remembers m8) fun r11 m10 =>
  ea_cl (f_X12_ofCase p1 3 m10) fun r13 m12 =>
  ea_cl (f_X12_caseAt p1 3 m12) fun r15 m14 =>
  ea_g r15 2180 (ea_bd (ea_st m14 273 (Int32.toNatClampNeg r15) 0) fun m16 =>
  some (r13, m16))
  else
  some (0, m8)
  else
  some (0, m4)
set_option maxHeartbeats 300000 in
theorem ok_X12_appeal (G : ea_G) (p1 : Int32) (m : ea_M)  (rZ : Int32) (mZ : ea_M) (hZ : f_X12_appeal p1 m = some (rZ, mZ)) : ea_Met G yX12_appeal F_X12_appeal [.ref 272, .int p1] m (0, rZ, mZ) := by
  refine ea_met (F := F_X12_appeal) (by decide +kernel) rfl rfl (Nat.le_of_ble_eq_true rfl) (by simp only [List.mem_cons, List.not_mem_nil, or_false]; intro v hv; rcases hv with rfl | rfl <;> rfl) ((?_ : ea_E G F_X12_appeal (0, rZ, mZ) 0 [some (.ref 272), some (.int p1), none] [] m 0 0 (f_X12_appeal p1 m) (fun t => t = (rZ, mZ))) (rZ, mZ) hZ rfl)
  have hR : ∀ t : Int32 × ea_M, t = (rZ, mZ) → ((0, rZ, mZ) : ea_O) = (0, t) := fun t h => by rw [h]
  unfold f_X12_appeal
  refine ev_aload_n (ea_at dt_X12_appeal 0 rfl) rfl ?_
  refine ev_iconst (ea_at dt_X12_appeal 1 rfl) ic_0 ?_
  refine ev_putI (ea_at dt_X12_appeal 2 rfl) fl_X12_3 fp_12_0 sh_272 rfl ?_
  refine ev_m (fun m1 => ?_)
  refine ev_aload_n (ea_at dt_X12_appeal 3 rfl) rfl ?_
  refine ev_aload_n (ea_at dt_X12_appeal 4 rfl) rfl ?_
  refine ev_iload_n (ea_at dt_X12_appeal 5 rfl) rfl ?_
  refine ev_clI (F1 := F_X12_noCase) (fun rY mY hY => ea_runV (As := [.int p1]) (ea_at dt_X12_appeal 6 rfl) ml_X12_396 mv_X12_noCase (ok_X12_noCase G p1 m1  rY mY hY) sh_272 rfl rfl rfl (Nat.le_of_ble_eq_true rfl) rfl) rfl (fun r3 m2 => ?_)
  refine ev_iconst (ea_at dt_X12_appeal 7 rfl) ic_1 ?_
  refine ev_clI (F1 := F_X12_throwsIf) (fun rY mY hY => ea_runV (As := [.int r3, .int 1]) (ea_at dt_X12_appeal 8 rfl) ml_X12_265 mv_X12_throwsIf (ok_X12_throwsIf G r3 1 m2  rY mY hY) sh_272 rfl rfl rfl (Nat.le_of_ble_eq_true rfl) rfl) rfl (fun r5 m4 => ?_)
  refine ev_if_ne (tgt := 31) (ea_at dt_X12_appeal 9 rfl) rfl (fun _ => ?_) (fun _ => ?_)
  · refine ev_aload_n (ea_at dt_X12_appeal 10 rfl) rfl ?_
    refine ev_aload_n (ea_at dt_X12_appeal 11 rfl) rfl ?_
    refine ev_iload_n (ea_at dt_X12_appeal 12 rfl) rfl ?_
    refine ev_clI (F1 := F_X12_isOpen) (fun rY mY hY => ea_runV (As := [.int p1]) (ea_at dt_X12_appeal 13 rfl) ml_X12_407 mv_X12_isOpen (ok_X12_isOpen G p1 m4  rY mY hY) sh_272 rfl rfl rfl (Nat.le_of_ble_eq_true rfl) rfl) rfl (fun r7 m6 => ?_)
    refine ev_iconst (ea_at dt_X12_appeal 14 rfl) ic_2 ?_
    refine ev_clI (F1 := F_X12_throwsIf) (fun rY mY hY => ea_runV (As := [.int r7, .int 2]) (ea_at dt_X12_appeal 15 rfl) ml_X12_265 mv_X12_throwsIf (ok_X12_throwsIf G r7 2 m6  rY mY hY) sh_272 rfl rfl rfl (Nat.le_of_ble_eq_true rfl) rfl) rfl (fun r9 m8 => ?_)
    refine ev_if_eq (tgt := 33) (ea_at dt_X12_appeal 16 rfl) rfl (fun _ => ?_) (fun _ => ?_)
    · refine ev_aload_n (ea_at dt_X12_appeal 19 rfl) rfl ?_
      refine ev_clU (F1 := F_X12_remembers) (fun rY mY hY => ea_runV (As := []) (ea_at dt_X12_appeal 20 rfl) ml_X12_423 mv_X12_remembers (ok_X12_remembers G m8  rY mY hY) sh_272 rfl rfl rfl (Nat.le_of_ble_eq_true rfl) rfl) rfl (fun r11 m10 => ?_)
      refine ev_aload_n (ea_at dt_X12_appeal 21 rfl) rfl ?_
      refine ev_iload_n (ea_at dt_X12_appeal 22 rfl) rfl ?_
      refine ev_iconst (ea_at dt_X12_appeal 23 rfl) ic_3 ?_
      refine ev_clI (F1 := F_X12_ofCase) (fun rY mY hY => ea_runV (As := [.int p1, .int 3]) (ea_at dt_X12_appeal 24 rfl) ml_X12_387 mv_X12_ofCase (ok_X12_ofCase G p1 3 m10  rY mY hY) sh_272 rfl rfl rfl (Nat.le_of_ble_eq_true rfl) rfl) rfl (fun r13 m12 => ?_)
      refine ev_istore_n (ls' := [some (.ref 272), some (.int p1), some (.int r13)]) (ea_at dt_X12_appeal 25 rfl) (ea_lt rfl) rfl ?_
      refine ev_aload_n (ea_at dt_X12_appeal 26 rfl) rfl ?_
      refine ev_getR (ea_at dt_X12_appeal 27 rfl) fl_X12_13 sh_272 rfl ?_
      refine ev_iload_n (ea_at dt_X12_appeal 28 rfl) rfl ?_
      refine ev_iconst (ea_at dt_X12_appeal 29 rfl) ic_3 ?_
      refine ev_clI (F1 := F_X12_caseAt) (fun rY mY hY => ea_runS (As := [.int p1, .int 3]) (ea_at dt_X12_appeal 30 rfl) ml_X12_71 mv_X12_caseAt (ok_X12_caseAt G p1 3 m12  rY mY hY) rfl rfl (Nat.le_of_ble_eq_true rfl) rfl) rfl (fun r15 m14 => ?_)
      refine ev_iconst (ea_at dt_X12_appeal 31 rfl) ic_0 ?_
      refine ev_iastore (ea_at dt_X12_appeal 32 rfl) sh_273 (by decide) ?_
      refine ev_m (fun m16 => ?_)
      refine ev_iload_n (ea_at dt_X12_appeal 33 rfl) rfl ?_
      exact ev_iret (ea_at dt_X12_appeal 34 rfl) rfl ⟨by decide, by decide⟩ (fun h => hR _ h)
    · refine ev_iconst (ea_at dt_X12_appeal 17 rfl) ic_0 ?_
      exact ev_iret (ea_at dt_X12_appeal 18 rfl) rfl ⟨by decide, by decide⟩ (fun h => hR _ h)
  · refine ev_iconst (ea_at dt_X12_appeal 17 rfl) ic_0 ?_
    exact ev_iret (ea_at dt_X12_appeal 18 rfl) rfl ⟨by decide, by decide⟩ (fun h => hR _ h)
def F_X12_oneWeek : ea_F := (ea_rm 10 0 0, cX12_oneWeek, RX12, some .int, 5, [], 0, 0)
def D_X12_oneWeek : List (Nat × Instr × Nat) := [(0, .iconst 0, 1), (1, .istore_n 1, 1), (2, .iconst 0, 1), (3, .istore_n 2, 1), (4, .iload_n 2, 1), (5, .aload_n 0, 1), (6, .invokevirtual 82, 3), (9, .if_icmp .ge 65, 3), (12, .iconst 0, 1), (13, .istore_n 3, 1), (14, .iload_n 3, 1), (15, .aload_n 0, 1), (16, .invokevirtual 74, 3), (19, .if_icmp .ge 49, 3), (22, .aload_n 0, 1), (23, .iload_n 3, 1), (24, .iconst 3, 1), (25, .invokevirtual 277, 3), (28, .bipush 99, 2), (30, .aload_n 0, 1), (31, .iload_n 2, 1), (32, .iload_n 3, 1), (33, .invokevirtual 390, 3), (36, .isub, 1), (37, .invokestatic 295, 3), (40, .istore 4, 2), (42, .aload_n 0, 1), (43, .getfield 13, 3), (46, .iload_n 2, 1), (47, .iload_n 3, 1), (48, .invokestatic 67, 3), (51, .dup2, 1), (52, .iaload, 1), (53, .iload 4, 2), (55, .iadd, 1), (56, .iastore, 1), (57, .iload_n 1, 1), (58, .iload 4, 2), (60, .iadd, 1), (61, .istore_n 1, 1), (62, .iinc 3 1, 3), (65, .goto (-51), 3), (68, .iinc 2 1, 3), (71, .goto (-67), 3), (74, .aload_n 0, 1), (75, .getfield 13, 3), (78, .iconst 5, 1), (79, .sipush 9999, 3), (82, .aload_n 0, 1), (83, .getfield 13, 3), (86, .iconst 5, 1), (87, .iaload, 1), (88, .iconst 1, 1), (89, .iadd, 1), (90, .invokestatic 295, 3), (93, .iastore, 1), (94, .iload_n 1, 1), (95, .ireturn, 1)]
theorem dt_X12_oneWeek : ∀ q ∈ D_X12_oneWeek, decode cX12_oneWeek q.1 = .ok q.2 := by decide +kernel
theorem mv_X12_oneWeek : ea_MV yX12_oneWeek (F_X12_oneWeek) 0 := ⟨⟨List.mem_append_right _ (List.mem_of_getElem? (i := 13) (by decide +kernel)), List.mem_append_right _ (List.mem_of_getElem? (i := 1969) (by decide +kernel)), ⟨by decide, by decide⟩, by decide +kernel⟩, List.mem_append_right _ (List.mem_of_getElem? (i := 1968) (by decide +kernel)), List.mem_append_left _ (List.mem_of_getElem? (i := 112) (by decide +kernel))⟩
def f_X12_oneWeek_s14 (s4 : Int32 × Int32 × ea_M)  (s14 : Int32 × Int32 × ea_M) : Option ((Int32 × Int32 × ea_M) ⊕ (Int32 × ea_M)) :=
  ea_cl (f_X12_birds s14.2.2) fun r4 m3 =>
  if r4 ≤ s14.2.1 then
  some (.inr (s14.1, m3))
  else
  ea_cl (f_X12_ofBird s14.2.1 3 m3) fun r6 m5 =>
  ea_cl (f_X12_stockOf s4.2.1 s14.2.1 m5) fun r8 m7 =>
  ea_bd (ea_min r6 (99 - r8)) fun x9 =>
  ea_cl (f_X12_stockAt s4.2.1 s14.2.1 m7) fun r11 m10 =>
  ea_g r11 2180 (ea_bd (m10 273 (Int32.toNatClampNeg r11)) fun x12 =>
  ea_g r11 2180 (ea_bd (ea_st m10 273 (Int32.toNatClampNeg r11) (x12 + x9)) fun m13 =>
  ea_bd (s14.1 + x9) fun x14 =>
  some (.inl (x14, s14.2.1 + 1, m13))))
def f_X12_oneWeek_s4  (s4 : Int32 × Int32 × ea_M) : Option ((Int32 × Int32 × ea_M) ⊕ (Int32 × ea_M)) :=
  ea_cl (f_X12_counsel s4.2.2) fun r2 m1 =>
  if r2 ≤ s4.2.1 then
  some (.inr (s4.1, m1))
  else
  (ea_loop (f_X12_oneWeek_s14 s4) ea_fuel (s4.1, 0, m1)).bind (fun x14s =>
  some (.inl (x14s.1, s4.2.1 + 1, x14s.2)))
def f_X12_oneWeek (m : ea_M) : Option (Int32 × ea_M) :=
  (ea_loop f_X12_oneWeek_s4 ea_fuel (0, 0, m)).bind (fun x4s =>
  ea_bd (x4s.2 273 5) fun x15 =>
  ea_bd (ea_min 9999 (x15 + 1)) fun x16 =>
  ea_bd (ea_st x4s.2 273 5 x16) fun m17 =>
  some (x4s.1, m17))
set_option maxHeartbeats 300000 in
theorem lp_X12_oneWeek_14 (G : ea_G) {res : ea_O}  (s4 : Int32 × Int32 × ea_M)  {Ψ : (Int32 × ea_M) → Prop} (hX : ∀ x14s : Int32 × ea_M, Ψ x14s → ea_Ev G F_X12_oneWeek res 68 [some (.ref 272), some (.int x14s.1), some (.int s4.2.1), none, none] [] x14s.2 0 0) : ∀ (f : Nat) (s14 : Int32 × Int32 × ea_M), ea_E G F_X12_oneWeek res 14 [some (.ref 272), some (.int s14.1), some (.int s4.2.1), some (.int s14.2.1), none] [] s14.2.2 0 0 (ea_loop (f_X12_oneWeek_s14 s4) f s14) Ψ := by
  refine ev_loop (G := G) (F := F_X12_oneWeek) (res := res) (pc := 14) (st := []) (k := 0) (n := 0) (step := (f_X12_oneWeek_s14 s4)) (Ψ := Ψ) (fun (s14 : Int32 × Int32 × ea_M) => [some (.ref 272), some (.int s14.1), some (.int s4.2.1), some (.int s14.2.1), none]) (fun (s14 : Int32 × Int32 × ea_M) => s14.2.2) (fun s14 => ?_)
  have hC : ∀ s14 : Int32 × Int32 × ea_M, (Sum.elim (fun s14 : Int32 × Int32 × ea_M => ea_Ev G F_X12_oneWeek res 14 [some (.ref 272), some (.int s14.1), some (.int s4.2.1), some (.int s14.2.1), none] [] s14.2.2 0 0) Ψ) (.inl s14) → ea_Ev G F_X12_oneWeek res 14 [some (.ref 272), some (.int s14.1), some (.int s4.2.1), some (.int s14.2.1), none] [] s14.2.2 0 0 := fun _ h => h
  have hX : ∀ x14s : Int32 × ea_M, (Sum.elim (fun s14 : Int32 × Int32 × ea_M => ea_Ev G F_X12_oneWeek res 14 [some (.ref 272), some (.int s14.1), some (.int s4.2.1), some (.int s14.2.1), none] [] s14.2.2 0 0) Ψ) (.inr x14s) → ea_Ev G F_X12_oneWeek res 68 [some (.ref 272), some (.int x14s.1), some (.int s4.2.1), none, none] [] x14s.2 0 0 := hX
  unfold f_X12_oneWeek_s14
  refine ev_iload_n (ea_at dt_X12_oneWeek 10 rfl) rfl ?_
  refine ev_aload_n (ea_at dt_X12_oneWeek 11 rfl) rfl ?_
  refine ev_clI (F1 := F_X12_birds) (fun rY mY hY => ea_runV (As := []) (ea_at dt_X12_oneWeek 12 rfl) ml_X12_74 mv_X12_birds (ok_X12_birds G s14.2.2  rY mY hY) sh_272 rfl rfl rfl (Nat.le_of_ble_eq_true rfl) rfl) rfl (fun r4 m3 => ?_)
  refine ev_icmp_ge (tgt := 68) (ea_at dt_X12_oneWeek 13 rfl) rfl (fun _ => ?_) (fun _ => ?_)
  · exact ev_leaf (fun h => ea_drop (l' := [some (.ref 272), some (.int s14.1), some (.int s4.2.1), none, none]) ⟨Or.inr rfl, Or.inr rfl, Or.inr rfl, Or.inl rfl, Or.inl rfl, trivial⟩ (hX (s14.1, m3) h))
  · refine ev_aload_n (ea_at dt_X12_oneWeek 14 rfl) rfl ?_
    refine ev_iload_n (ea_at dt_X12_oneWeek 15 rfl) rfl ?_
    refine ev_iconst (ea_at dt_X12_oneWeek 16 rfl) ic_3 ?_
    refine ev_clI (F1 := F_X12_ofBird) (fun rY mY hY => ea_runV (As := [.int s14.2.1, .int 3]) (ea_at dt_X12_oneWeek 17 rfl) ml_X12_277 mv_X12_ofBird (ok_X12_ofBird G s14.2.1 3 m3  rY mY hY) sh_272 rfl rfl rfl (Nat.le_of_ble_eq_true rfl) rfl) rfl (fun r6 m5 => ?_)
    refine ev_bipush (ea_at dt_X12_oneWeek 18 rfl) bp_99 ?_
    refine ev_aload_n (ea_at dt_X12_oneWeek 19 rfl) rfl ?_
    refine ev_iload_n (ea_at dt_X12_oneWeek 20 rfl) rfl ?_
    refine ev_iload_n (ea_at dt_X12_oneWeek 21 rfl) rfl ?_
    refine ev_clI (F1 := F_X12_stockOf) (fun rY mY hY => ea_runV (As := [.int s4.2.1, .int s14.2.1]) (ea_at dt_X12_oneWeek 22 rfl) ml_X12_390 mv_X12_stockOf (ok_X12_stockOf G s4.2.1 s14.2.1 m5  rY mY hY) sh_272 rfl rfl rfl (Nat.le_of_ble_eq_true rfl) rfl) rfl (fun r8 m7 => ?_)
    refine ev_isub (ea_at dt_X12_oneWeek 23 rfl) ?_
    refine ev_mmin (ea_at dt_X12_oneWeek 24 rfl) ml_X12_295 ea_maW_min ⟨by decide, Nat.le_of_ble_eq_true rfl, by decide, by decide⟩ ?_
    refine ev_i (fun x9 => ?_)
    refine ev_istore (ls' := [some (.ref 272), some (.int s14.1), some (.int s4.2.1), some (.int s14.2.1), some (.int x9)]) (ea_at dt_X12_oneWeek 25 rfl) (ea_lt rfl) rfl ?_
    refine ev_aload_n (ea_at dt_X12_oneWeek 26 rfl) rfl ?_
    refine ev_getR (ea_at dt_X12_oneWeek 27 rfl) fl_X12_13 sh_272 rfl ?_
    refine ev_iload_n (ea_at dt_X12_oneWeek 28 rfl) rfl ?_
    refine ev_iload_n (ea_at dt_X12_oneWeek 29 rfl) rfl ?_
    refine ev_clI (F1 := F_X12_stockAt) (fun rY mY hY => ea_runS (As := [.int s4.2.1, .int s14.2.1]) (ea_at dt_X12_oneWeek 30 rfl) ml_X12_67 mv_X12_stockAt (ok_X12_stockAt G s4.2.1 s14.2.1 m7  rY mY hY) rfl rfl (Nat.le_of_ble_eq_true rfl) rfl) rfl (fun r11 m10 => ?_)
    refine ev_dup2 (ea_at dt_X12_oneWeek 31 rfl) rfl rfl ?_
    refine ev_iaload (ea_at dt_X12_oneWeek 32 rfl) sh_273 (by decide) ?_
    refine ev_i (fun x12 => ?_)
    refine ev_iload (ea_at dt_X12_oneWeek 33 rfl) rfl ?_
    refine ev_iadd (ea_at dt_X12_oneWeek 34 rfl) ?_
    refine ev_iastore (ea_at dt_X12_oneWeek 35 rfl) sh_273 (by decide) ?_
    refine ev_m (fun m13 => ?_)
    refine ev_iload_n (ea_at dt_X12_oneWeek 36 rfl) rfl ?_
    refine ev_iload (ea_at dt_X12_oneWeek 37 rfl) rfl ?_
    refine ev_iadd (ea_at dt_X12_oneWeek 38 rfl) ?_
    refine ev_i (fun x14 => ?_)
    refine ev_istore_n (ls' := [some (.ref 272), some (.int x14), some (.int s4.2.1), some (.int s14.2.1), some (.int x9)]) (ea_at dt_X12_oneWeek 39 rfl) (ea_lt rfl) rfl ?_
    refine ev_iinc (ls' := [some (.ref 272), some (.int x14), some (.int s4.2.1), some (.int (s14.2.1 + 1)), some (.int x9)]) (ea_at dt_X12_oneWeek 40 rfl) rfl (congrArg (fun z => _ + z) ic_1) (ea_lt rfl) rfl ?_
    refine ev_goto (tgt := 14) (ea_at dt_X12_oneWeek 41 rfl) rfl ?_
    exact ev_leaf (fun h => ea_drop (l' := [some (.ref 272), some (.int x14), some (.int s4.2.1), some (.int (s14.2.1 + 1)), none]) ⟨Or.inr rfl, Or.inr rfl, Or.inr rfl, Or.inr rfl, Or.inl rfl, trivial⟩ (hC (x14, s14.2.1 + 1, m13) h))
set_option maxHeartbeats 300000 in
theorem lp_X12_oneWeek_4 (G : ea_G) {res : ea_O}    {Ψ : (Int32 × ea_M) → Prop} (hX : ∀ x4s : Int32 × ea_M, Ψ x4s → ea_Ev G F_X12_oneWeek res 74 [some (.ref 272), some (.int x4s.1), none, none, none] [] x4s.2 0 0) : ∀ (f : Nat) (s4 : Int32 × Int32 × ea_M), ea_E G F_X12_oneWeek res 4 [some (.ref 272), some (.int s4.1), some (.int s4.2.1), none, none] [] s4.2.2 0 0 (ea_loop f_X12_oneWeek_s4 f s4) Ψ := by
  refine ev_loop (G := G) (F := F_X12_oneWeek) (res := res) (pc := 4) (st := []) (k := 0) (n := 0) (step := f_X12_oneWeek_s4) (Ψ := Ψ) (fun (s4 : Int32 × Int32 × ea_M) => [some (.ref 272), some (.int s4.1), some (.int s4.2.1), none, none]) (fun (s4 : Int32 × Int32 × ea_M) => s4.2.2) (fun s4 => ?_)
  have hC : ∀ s4 : Int32 × Int32 × ea_M, (Sum.elim (fun s4 : Int32 × Int32 × ea_M => ea_Ev G F_X12_oneWeek res 4 [some (.ref 272), some (.int s4.1), some (.int s4.2.1), none, none] [] s4.2.2 0 0) Ψ) (.inl s4) → ea_Ev G F_X12_oneWeek res 4 [some (.ref 272), some (.int s4.1), some (.int s4.2.1), none, none] [] s4.2.2 0 0 := fun _ h => h
  have hX : ∀ x4s : Int32 × ea_M, (Sum.elim (fun s4 : Int32 × Int32 × ea_M => ea_Ev G F_X12_oneWeek res 4 [some (.ref 272), some (.int s4.1), some (.int s4.2.1), none, none] [] s4.2.2 0 0) Ψ) (.inr x4s) → ea_Ev G F_X12_oneWeek res 74 [some (.ref 272), some (.int x4s.1), none, none, none] [] x4s.2 0 0 := hX
  unfold f_X12_oneWeek_s4
  refine ev_iload_n (ea_at dt_X12_oneWeek 4 rfl) rfl ?_
  refine ev_aload_n (ea_at dt_X12_oneWeek 5 rfl) rfl ?_
  refine ev_clI (F1 := F_X12_counsel) (fun rY mY hY => ea_runV (As := []) (ea_at dt_X12_oneWeek 6 rfl) ml_X12_82 mv_X12_counsel (ok_X12_counsel G s4.2.2  rY mY hY) sh_272 rfl rfl rfl (Nat.le_of_ble_eq_true rfl) rfl) rfl (fun r2 m1 => ?_)
  refine ev_icmp_ge (tgt := 74) (ea_at dt_X12_oneWeek 7 rfl) rfl (fun _ => ?_) (fun _ => ?_)
  · exact ev_leaf (fun h => ea_drop (l' := [some (.ref 272), some (.int s4.1), none, none, none]) ⟨Or.inr rfl, Or.inr rfl, Or.inl rfl, Or.inl rfl, Or.inl rfl, trivial⟩ (hX (s4.1, m1) h))
  · refine ev_iconst (ea_at dt_X12_oneWeek 8 rfl) ic_0 ?_
    refine ev_istore_n (ls' := [some (.ref 272), some (.int s4.1), some (.int s4.2.1), some (.int 0), none]) (ea_at dt_X12_oneWeek 9 rfl) (ea_lt rfl) rfl ?_
    refine ev_drop (l' := [some (.ref 272), some (.int s4.1), some (.int s4.2.1), some (.int 0), none]) ⟨Or.inr rfl, Or.inr rfl, Or.inr rfl, Or.inr rfl, Or.inl rfl, trivial⟩ ?_
    refine ev_bind (lp_X12_oneWeek_14 G s4   (fun x14s h => ?_) ea_fuel (s4.1, 0, m1))
    obtain ⟨t1, e1, q1⟩ := h
    refine (?_ : ea_E G F_X12_oneWeek res 68 [some (.ref 272), some (.int x14s.1), some (.int s4.2.1), none, none] [] x14s.2 0 0 _ (Sum.elim (fun s4 : Int32 × Int32 × ea_M => ea_Ev G F_X12_oneWeek res 4 [some (.ref 272), some (.int s4.1), some (.int s4.2.1), none, none] [] s4.2.2 0 0) Ψ)) t1 e1 q1
    refine ev_iinc (ls' := [some (.ref 272), some (.int x14s.1), some (.int (s4.2.1 + 1)), none, none]) (ea_at dt_X12_oneWeek 42 rfl) rfl (congrArg (fun z => _ + z) ic_1) (ea_lt rfl) rfl ?_
    refine ev_goto (tgt := 4) (ea_at dt_X12_oneWeek 43 rfl) rfl ?_
    exact ev_leaf (fun h => ea_drop (l' := [some (.ref 272), some (.int x14s.1), some (.int (s4.2.1 + 1)), none, none]) ⟨Or.inr rfl, Or.inr rfl, Or.inr rfl, Or.inl rfl, Or.inl rfl, trivial⟩ (hC (x14s.1, s4.2.1 + 1, x14s.2) h))
set_option maxHeartbeats 300000 in
theorem ok_X12_oneWeek (G : ea_G) (m : ea_M)  (rZ : Int32) (mZ : ea_M) (hZ : f_X12_oneWeek m = some (rZ, mZ)) : ea_Met G yX12_oneWeek F_X12_oneWeek [.ref 272] m (0, rZ, mZ) := by
  refine ea_met (F := F_X12_oneWeek) (by decide +kernel) rfl rfl (Nat.le_of_ble_eq_true rfl) (by simp only [List.mem_cons, List.not_mem_nil, or_false]; intro v hv; rcases hv with rfl <;> rfl) ((?_ : ea_E G F_X12_oneWeek (0, rZ, mZ) 0 [some (.ref 272), none, none, none, none] [] m 0 0 (f_X12_oneWeek m) (fun t => t = (rZ, mZ))) (rZ, mZ) hZ rfl)
  have hR : ∀ t : Int32 × ea_M, t = (rZ, mZ) → ((0, rZ, mZ) : ea_O) = (0, t) := fun t h => by rw [h]
  unfold f_X12_oneWeek
  refine ev_iconst (ea_at dt_X12_oneWeek 0 rfl) ic_0 ?_
  refine ev_istore_n (ls' := [some (.ref 272), some (.int 0), none, none, none]) (ea_at dt_X12_oneWeek 1 rfl) (ea_lt rfl) rfl ?_
  refine ev_iconst (ea_at dt_X12_oneWeek 2 rfl) ic_0 ?_
  refine ev_istore_n (ls' := [some (.ref 272), some (.int 0), some (.int 0), none, none]) (ea_at dt_X12_oneWeek 3 rfl) (ea_lt rfl) rfl ?_
  refine ev_drop (l' := [some (.ref 272), some (.int 0), some (.int 0), none, none]) ⟨Or.inr rfl, Or.inr rfl, Or.inr rfl, Or.inl rfl, Or.inl rfl, trivial⟩ ?_
  refine ev_bind (lp_X12_oneWeek_4 G   (fun x4s h => ?_) ea_fuel (0, 0, m))
  obtain ⟨t1, e1, q1⟩ := h
  refine (?_ : ea_E G F_X12_oneWeek (0, rZ, mZ) 74 [some (.ref 272), some (.int x4s.1), none, none, none] [] x4s.2 0 0 _ (fun t => t = (rZ, mZ))) t1 e1 q1
  refine ev_aload_n (ea_at dt_X12_oneWeek 44 rfl) rfl ?_
  refine ev_getR (ea_at dt_X12_oneWeek 45 rfl) fl_X12_13 sh_272 rfl ?_
  refine ev_iconst (ea_at dt_X12_oneWeek 46 rfl) ic_5 ?_
  refine ev_sipush (ea_at dt_X12_oneWeek 47 rfl) sp_9999 ?_
  refine ev_aload_n (ea_at dt_X12_oneWeek 48 rfl) rfl ?_
  refine ev_getR (ea_at dt_X12_oneWeek 49 rfl) fl_X12_13 sh_272 rfl ?_
  refine ev_iconst (ea_at dt_X12_oneWeek 50 rfl) ic_5 ?_
  refine ev_ialoadC (j := 5) (ea_at dt_X12_oneWeek 51 rfl) sh_273 (by decide) (by decide) (by decide) (by decide) ?_
  refine ev_i (fun x15 => ?_)
  refine ev_iconst (ea_at dt_X12_oneWeek 52 rfl) ic_1 ?_
  refine ev_iadd (ea_at dt_X12_oneWeek 53 rfl) ?_
  refine ev_mmin (ea_at dt_X12_oneWeek 54 rfl) ml_X12_295 ea_maW_min ⟨by decide, Nat.le_of_ble_eq_true rfl, by decide, by decide⟩ ?_
  refine ev_i (fun x16 => ?_)
  refine ev_iastoreC (j := 5) (ea_at dt_X12_oneWeek 55 rfl) sh_273 (by decide) (by decide) (by decide) (by decide) ?_
  refine ev_m (fun m17 => ?_)
  refine ev_iload_n (ea_at dt_X12_oneWeek 56 rfl) rfl ?_
  exact ev_iret (ea_at dt_X12_oneWeek 57 rfl) rfl ⟨by decide, by decide⟩ (fun h => hR _ h)
