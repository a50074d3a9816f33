def F_X12_readBird : ea_F := (ea_rm 15 0 0, cX12_readBird, RX12, some .boolean, 8, [], 0, 0)
def D_X12_readBird : List (Nat × Instr × Nat) := [(0, .aload_n 0, 1), (1, .invokevirtual 74, 3), (4, .istore_n 1, 1), (5, .iload_n 1, 1), (6, .bipush 6, 2), (8, .if_icmp .ne 5, 3), (11, .iconst 0, 1), (12, .ireturn, 1), (13, .aload_n 0, 1), (14, .invokevirtual 117, 3), (17, .aload_n 0, 1), (18, .ldc 130, 2), (20, .invokevirtual 120, 3), (23, .ifCond .eq 12, 3), (26, .aload_n 0, 1), (27, .iconst 0, 1), (28, .iconst 4, 1), (29, .invokevirtual 124, 3), (32, .goto 4, 3), (35, .iconst (-1), 1), (36, .istore_n 2, 1), (37, .iload_n 2, 1), (38, .ifCond .ge 7, 3), (41, .iconst (-1), 1), (42, .goto 11, 3), (45, .aload_n 0, 1), (46, .ldc 132, 2), (48, .iconst 0, 1), (49, .iconst 3, 1), (50, .invokevirtual 134, 3), (53, .istore_n 3, 1), (54, .iload_n 3, 1), (55, .ifCond .ge 5, 3), (58, .iconst 0, 1), (59, .ireturn, 1), (60, .aload_n 0, 1), (61, .invokevirtual 117, 3), (64, .aload_n 0, 1), (65, .ldc 138, 2), (67, .invokevirtual 120, 3), (70, .ifCond .eq 12, 3), (73, .aload_n 0, 1), (74, .bipush 6, 2), (76, .invokevirtual 140, 3), (79, .goto 4, 3), (82, .iconst (-1), 1), (83, .istore 4, 2), (85, .iload 4, 2), (87, .ifCond .ge 7, 3), (90, .iconst (-1), 1), (91, .goto 11, 3), (94, .aload_n 0, 1), (95, .ldc 144, 2), (97, .iconst 0, 1), (98, .iconst 5, 1), (99, .invokevirtual 134, 3), (102, .istore 5, 2), (104, .iload 5, 2), (106, .ifCond .ge 5, 3), (109, .iconst 0, 1), (110, .ireturn, 1), (111, .bipush 26, 2), (113, .iconst 4, 1), (114, .iload_n 1, 1), (115, .imul, 1), (116, .iadd, 1), (117, .istore 6, 2), (119, .aload_n 0, 1), (120, .getfield 13, 3), (123, .iload 6, 2), (125, .iconst 0, 1), (126, .iadd, 1), (127, .iload_n 2, 1), (128, .iastore, 1), (129, .aload_n 0, 1), (130, .getfield 13, 3), (133, .iload 6, 2), (135, .iconst 1, 1), (136, .iadd, 1), (137, .iload_n 3, 1), (138, .iastore, 1), (139, .aload_n 0, 1), (140, .getfield 13, 3), (143, .iload 6, 2), (145, .iconst 2, 1), (146, .iadd, 1), (147, .iload 4, 2), (149, .iastore, 1), (150, .aload_n 0, 1), (151, .getfield 13, 3), (154, .iload 6, 2), (156, .iconst 3, 1), (157, .iadd, 1), (158, .iload 5, 2), (160, .iastore, 1), (161, .iconst 0, 1), (162, .istore 7, 2), (164, .iload 7, 2), (166, .iconst 4, 1), (167, .if_icmp .ge 21, 3), (170, .aload_n 0, 1), (171, .getfield 13, 3), (174, .iload 7, 2), (176, .iload_n 1, 1), (177, .invokestatic 67, 3), (180, .iconst 0, 1), (181, .iastore, 1), (182, .iinc 7 1, 3), (185, .goto (-21), 3), (188, .aload_n 0, 1), (189, .getfield 13, 3), (192, .iconst 0, 1), (193, .dup2, 1), (194, .iaload, 1), (195, .iconst 1, 1), (196, .iadd, 1), (197, .iastore, 1), (198, .iconst 1, 1), (199, .ireturn, 1)]
theorem dt_X12_readBird : ∀ q ∈ D_X12_readBird, decode cX12_readBird q.1 = .ok q.2 := by decide +kernel
theorem mv_X12_readBird : ea_MV yX12_readBird (F_X12_readBird) 0 := ⟨⟨List.mem_append_right _ (List.mem_of_getElem? (i := 13) (by decide +kernel)), List.mem_append_right _ (List.mem_of_getElem? (i := 1563) (by decide +kernel)), ⟨by decide, by decide⟩, by decide +kernel⟩, List.mem_append_right _ (List.mem_of_getElem? (i := 1562) (by decide +kernel)), List.mem_append_left _ (List.mem_of_getElem? (i := 50) (by decide +kernel))⟩
def f_X12_readBird_s164 (x27 : Int32)  (s164 : Int32 × ea_M) : Option ((Int32 × ea_M) ⊕ (ea_M)) :=
  if 4 ≤ s164.1 then
  some (.inr s164.2)
  else
  ea_cl (f_X12_stockAt s164.1 x27 s164.2) fun r39 m38 =>
  ea_g r39 2180 (ea_bd (ea_st m38 273 (Int32.toNatClampNeg r39) 0) fun m40 =>
  some (.inl (s164.1 + 1, m40)))
def f_X12_readBird_j102 (x27 : Int32) (x28 : Int32) (x29 : Int32) (x30 : Int32) (x31 : Int32) (m32 : ea_M) : Option (Int32 × ea_M) :=
  if 0 ≤ x31 then
  ea_bd (26 + (4 * x27)) fun x33 =>
  ea_g (x33 + 0) 2180 (ea_bd (ea_st m32 273 (Int32.toNatClampNeg (x33 + 0)) x28) fun m34 =>
  ea_g (x33 + 1) 2180 (ea_bd (ea_st m34 273 (Int32.toNatClampNeg (x33 + 1)) x29) fun m35 =>
  ea_g (x33 + 2) 2180 (ea_bd (ea_st m35 273 (Int32.toNatClampNeg (x33 + 2)) x30) fun m36 =>
  ea_g (x33 + 3) 2180 (ea_bd (ea_st m36 273 (Int32.toNatClampNeg (x33 + 3)) x31) fun m37 =>
  (ea_loop (f_X12_readBird_s164 x27) ea_fuel (0, m37)).bind (fun x164s =>
  ea_bd (x164s 273 0) fun x41 =>
  ea_bd (ea_st x164s 273 0 (x41 + 1)) fun m42 =>
  some (1, m42))))))
  else
  some (0, m32)
def f_X12_readBird_j83 (x20 : Int32) (x21 : Int32) (x22 : Int32) (x23 : Int32) (m24 : ea_M) : Option (Int32 × ea_M) :=
  if 0 ≤ x23 then
  ea_cl (f_X12_after 50 0 5 m24) fun r26 m25 =>
  f_X12_readBird_j102 x20 x21 x22 x23 r26 m25
  else
  f_X12_readBird_j102 x20 x21 x22 x23 (-1) m24
def f_X12_readBird_j53 (x12 : Int32) (x13 : Int32) (x14 : Int32) (m15 : ea_M) : Option (Int32 × ea_M) :=
  if 0 ≤ x14 then
  ea_cl (f_X12_letters m15) fun r17 m16 =>
  ea_cl (f_X12_isWord 49 m16) fun r19 m18 =>
  if r19 = 0 then
  f_X12_readBird_j83 x12 x13 x14 (-1) m18
  else
  ea_cl (f_X12_lettersTold 6 m18) fun r44 m43 =>
  f_X12_readBird_j83 x12 x13 x14 r44 m43
  else
  some (0, m15)
def f_X12_readBird_j36 (x7 : Int32) (x8 : Int32) (m9 : ea_M) : Option (Int32 × ea_M) :=
  if 0 ≤ x8 then
  ea_cl (f_X12_after 48 0 3 m9) fun r11 m10 =>
  f_X12_readBird_j53 x7 x8 r11 m10
  else
  f_X12_readBird_j53 x7 x8 (-1) m9
def f_X12_readBird (m : ea_M) : Option (Int32 × ea_M) :=
  ea_cl (f_X12_birds m) fun r2 m1 =>
  if r2 = 6 then
  some (0, m1)
  else
  ea_cl (f_X12_letters m1) fun r4 m3 =>
  ea_cl (f_X12_isWord 47 m3) fun r6 m5 =>
  if r6 = 0 then
  f_X12_readBird_j36 r2 (-1) m5
  else
  ea_cl (f_X12_number 0 4 m5) fun r46 m45 =>
  f_X12_readBird_j36 r2 r46 m45
set_option maxHeartbeats 300000 in
theorem lp_X12_readBird_164 (G : ea_G) {res : ea_O}  (x27 : Int32)  {Ψ : ea_M → Prop} (hX : ∀ x164s : ea_M, Ψ x164s → ea_Ev G F_X12_readBird res 188 [some (.ref 272), none, none, none, none, none, none, none] [] x164s 0 0) : ∀ (f : Nat) (s164 : Int32 × ea_M), ea_E G F_X12_readBird res 164 [some (.ref 272), some (.int x27), none, none, none, none, none, some (.int s164.1)] [] s164.2 0 0 (ea_loop (f_X12_readBird_s164 x27) f s164) Ψ := by
  refine ev_loop (G := G) (F := F_X12_readBird) (res := res) (pc := 164) (st := []) (k := 0) (n := 0) (step := (f_X12_readBird_s164 x27)) (Ψ := Ψ) (fun (s164 : Int32 × ea_M) => [some (.ref 272), some (.int x27), none, none, none, none, none, some (.int s164.1)]) (fun (s164 : Int32 × ea_M) => s164.2) (fun s164 => ?_)
  have hC : ∀ s164 : Int32 × ea_M, (Sum.elim (fun s164 : Int32 × ea_M => ea_Ev G F_X12_readBird res 164 [some (.ref 272), some (.int x27), none, none, none, none, none, some (.int s164.1)] [] s164.2 0 0) Ψ) (.inl s164) → ea_Ev G F_X12_readBird res 164 [some (.ref 272), some (.int x27), none, none, none, none, none, some (.int s164.1)] [] s164.2 0 0 := fun _ h => h
  have hX : ∀ x164s : ea_M, (Sum.elim (fun s164 : Int32 × ea_M => ea_Ev G F_X12_readBird res 164 [some (.ref 272), some (.int x27), none, none, none, none, none, some (.int s164.1)] [] s164.2 0 0) Ψ) (.inr x164s) → ea_Ev G F_X12_readBird res 188 [some (.ref 272), none, none, none, none, none, none, none] [] x164s 0 0 := hX
  unfold f_X12_readBird_s164
  refine ev_iload (ea_at dt_X12_readBird 97 rfl) rfl ?_
  refine ev_iconst (ea_at dt_X12_readBird 98 rfl) ic_4 ?_
  refine ev_icmp_ge (tgt := 188) (ea_at dt_X12_readBird 99 rfl) rfl (fun _ => ?_) (fun _ => ?_)
  · exact ev_leaf (fun h => ea_drop (l' := [some (.ref 272), none, none, none, none, none, none, none]) ⟨Or.inr rfl, Or.inl rfl, Or.inl rfl, Or.inl rfl, Or.inl rfl, Or.inl rfl, Or.inl rfl, Or.inl rfl, trivial⟩ (hX s164.2 h))
  · refine ev_aload_n (ea_at dt_X12_readBird 100 rfl) rfl ?_
    refine ev_getR (ea_at dt_X12_readBird 101 rfl) fl_X12_13 sh_272 rfl ?_
    refine ev_iload (ea_at dt_X12_readBird 102 rfl) rfl ?_
    refine ev_iload_n (ea_at dt_X12_readBird 103 rfl) rfl ?_
    refine ev_clI (F1 := F_X12_stockAt) (fun rY mY hY => ea_runS (As := [.int s164.1, .int x27]) (ea_at dt_X12_readBird 104 rfl) ml_X12_67 mv_X12_stockAt (ok_X12_stockAt G s164.1 x27 s164.2  rY mY hY) rfl rfl (Nat.le_of_ble_eq_true rfl) rfl) rfl (fun r39 m38 => ?_)
    refine ev_iconst (ea_at dt_X12_readBird 105 rfl) ic_0 ?_
    refine ev_iastore (ea_at dt_X12_readBird 106 rfl) sh_273 (by decide) ?_
    refine ev_m (fun m40 => ?_)
    refine ev_iinc (ls' := [some (.ref 272), some (.int x27), none, none, none, none, none, some (.int (s164.1 + 1))]) (ea_at dt_X12_readBird 107 rfl) rfl (congrArg (fun z => _ + z) ic_1) (ea_lt rfl) rfl ?_
    refine ev_goto (tgt := 164) (ea_at dt_X12_readBird 108 rfl) rfl ?_
    exact ev_leaf (fun h => ea_drop (l' := [some (.ref 272), some (.int x27), none, none, none, none, none, some (.int (s164.1 + 1))]) ⟨Or.inr rfl, Or.inr rfl, Or.inl rfl, Or.inl rfl, Or.inl rfl, Or.inl rfl, Or.inl rfl, Or.inr rfl, trivial⟩ (hC (s164.1 + 1, m40) h))
set_option maxHeartbeats 300000 in
theorem jn_X12_readBird_102 (G : ea_G) {res : ea_O}  (x27 : Int32) (x28 : Int32) (x29 : Int32) (x30 : Int32) (x31 : Int32) (m32 : ea_M)  {Φ : (Int32 × ea_M) → Prop} (hR : ∀ t : Int32 × ea_M, Φ t → res = (0, t)) : ea_E G F_X12_readBird res 102 [some (.ref 272), some (.int x27), some (.int x28), some (.int x29), some (.int x30), none, none, none] [.int x31] m32 0 0 (f_X12_readBird_j102 x27 x28 x29 x30 x31 m32) Φ := by
  unfold f_X12_readBird_j102
  refine ev_istore (ls' := [some (.ref 272), some (.int x27), some (.int x28), some (.int x29), some (.int x30), some (.int x31), none, none]) (ea_at dt_X12_readBird 56 rfl) (ea_lt rfl) rfl ?_
  refine ev_iload (ea_at dt_X12_readBird 57 rfl) rfl ?_
  refine ev_if_ge (tgt := 111) (ea_at dt_X12_readBird 58 rfl) rfl (fun _ => ?_) (fun _ => ?_)
  · refine ev_bipush (ea_at dt_X12_readBird 61 rfl) bp_26 ?_
    refine ev_iconst (ea_at dt_X12_readBird 62 rfl) ic_4 ?_
    refine ev_iload_n (ea_at dt_X12_readBird 63 rfl) rfl ?_
    refine ev_imul (ea_at dt_X12_readBird 64 rfl) ?_
    refine ev_iadd (ea_at dt_X12_readBird 65 rfl) ?_
    refine ev_i (fun x33 => ?_)
    refine ev_istore (ls' := [some (.ref 272), some (.int x27), some (.int x28), some (.int x29), some (.int x30), some (.int x31), some (.int x33), none]) (ea_at dt_X12_readBird 66 rfl) (ea_lt rfl) rfl ?_
    refine ev_aload_n (ea_at dt_X12_readBird 67 rfl) rfl ?_
    refine ev_getR (ea_at dt_X12_readBird 68 rfl) fl_X12_13 sh_272 rfl ?_
    refine ev_iload (ea_at dt_X12_readBird 69 rfl) rfl ?_
    refine ev_iconst (ea_at dt_X12_readBird 70 rfl) ic_0 ?_
    refine ev_iadd (ea_at dt_X12_readBird 71 rfl) ?_
    refine ev_iload_n (ea_at dt_X12_readBird 72 rfl) rfl ?_
    refine ev_iastore (ea_at dt_X12_readBird 73 rfl) sh_273 (by decide) ?_
    refine ev_m (fun m34 => ?_)
    refine ev_aload_n (ea_at dt_X12_readBird 74 rfl) rfl ?_
    refine ev_getR (ea_at dt_X12_readBird 75 rfl) fl_X12_13 sh_272 rfl ?_
    refine ev_iload (ea_at dt_X12_readBird 76 rfl) rfl ?_
    refine ev_iconst (ea_at dt_X12_readBird 77 rfl) ic_1 ?_
    refine ev_iadd (ea_at dt_X12_readBird 78 rfl) ?_
    refine ev_iload_n (ea_at dt_X12_readBird 79 rfl) rfl ?_
    refine ev_iastore (ea_at dt_X12_readBird 80 rfl) sh_273 (by decide) ?_
    refine ev_m (fun m35 => ?_)
    refine ev_aload_n (ea_at dt_X12_readBird 81 rfl) rfl ?_
    refine ev_getR (ea_at dt_X12_readBird 82 rfl) fl_X12_13 sh_272 rfl ?_
    refine ev_iload (ea_at dt_X12_readBird 83 rfl) rfl ?_
    refine ev_iconst (ea_at dt_X12_readBird 84 rfl) ic_2 ?_
    refine ev_iadd (ea_at dt_X12_readBird 85 rfl) ?_
    refine ev_iload (ea_at dt_X12_readBird 86 rfl) rfl ?_
    refine ev_iastore (ea_at dt_X12_readBird 87 rfl) sh_273 (by decide) ?_
    refine ev_m (fun m36 => ?_)
    refine ev_aload_n (ea_at dt_X12_readBird 88 rfl) rfl ?_
    refine ev_getR (ea_at dt_X12_readBird 89 rfl) fl_X12_13 sh_272 rfl ?_
    refine ev_iload (ea_at dt_X12_readBird 90 rfl) rfl ?_
    refine ev_iconst (ea_at dt_X12_readBird 91 rfl) ic_3 ?_
    refine ev_iadd (ea_at dt_X12_readBird 92 rfl) ?_
    refine ev_iload (ea_at dt_X12_readBird 93 rfl) rfl ?_
    refine ev_iastore (ea_at dt_X12_readBird 94 rfl) sh_273 (by decide) ?_
    refine ev_m (fun m37 => ?_)
    refine ev_iconst (ea_at dt_X12_readBird 95 rfl) ic_0 ?_
    refine ev_istore (ls' := [some (.ref 272), some (.int x27), some (.int x28), some (.int x29), some (.int x30), some (.int x31), some (.int x33), some (.int 0)]) (ea_at dt_X12_readBird 96 rfl) (ea_lt rfl) rfl ?_
    refine ev_drop (l' := [some (.ref 272), some (.int x27), none, none, none, none, none, some (.int 0)]) ⟨Or.inr rfl, Or.inr rfl, Or.inl rfl, Or.inl rfl, Or.inl rfl, Or.inl rfl, Or.inl rfl, Or.inr rfl, trivial⟩ ?_
    refine ev_bind (lp_X12_readBird_164 G x27   (fun x164s h => ?_) ea_fuel (0, m37))
    obtain ⟨t1, e1, q1⟩ := h
    refine (?_ : ea_E G F_X12_readBird res 188 [some (.ref 272), none, none, none, none, none, none, none] [] x164s 0 0 _ Φ) t1 e1 q1
    refine ev_aload_n (ea_at dt_X12_readBird 109 rfl) rfl ?_
    refine ev_getR (ea_at dt_X12_readBird 110 rfl) fl_X12_13 sh_272 rfl ?_
    refine ev_iconst (ea_at dt_X12_readBird 111 rfl) ic_0 ?_
    refine ev_dup2 (ea_at dt_X12_readBird 112 rfl) rfl rfl ?_
    refine ev_ialoadC (j := 0) (ea_at dt_X12_readBird 113 rfl) sh_273 (by decide) (by decide) (by decide) (by decide) ?_
    refine ev_i (fun x41 => ?_)
    refine ev_iconst (ea_at dt_X12_readBird 114 rfl) ic_1 ?_
    refine ev_iadd (ea_at dt_X12_readBird 115 rfl) ?_
    refine ev_iastoreC (j := 0) (ea_at dt_X12_readBird 116 rfl) sh_273 (by decide) (by decide) (by decide) (by decide) ?_
    refine ev_m (fun m42 => ?_)
    refine ev_iconst (ea_at dt_X12_readBird 117 rfl) ic_1 ?_
    exact ev_zret (by decide) (ea_at dt_X12_readBird 118 rfl) rfl ⟨by decide, by decide⟩ (fun h => hR _ h)
  · refine ev_iconst (ea_at dt_X12_readBird 59 rfl) ic_0 ?_
    exact ev_zret (by decide) (ea_at dt_X12_readBird 60 rfl) rfl ⟨by decide, by decide⟩ (fun h => hR _ h)
set_option maxHeartbeats 300000 in
theorem jn_X12_readBird_83 (G : ea_G) {res : ea_O}  (x20 : Int32) (x21 : Int32) (x22 : Int32) (x23 : Int32) (m24 : ea_M)  {Φ : (Int32 × ea_M) → Prop} (hR : ∀ t : Int32 × ea_M, Φ t → res = (0, t)) : ea_E G F_X12_readBird res 83 [some (.ref 272), some (.int x20), some (.int x21), some (.int x22), none, none, none, none] [.int x23] m24 0 0 (f_X12_readBird_j83 x20 x21 x22 x23 m24) Φ := by
  unfold f_X12_readBird_j83
  refine ev_istore (ls' := [some (.ref 272), some (.int x20), some (.int x21), some (.int x22), some (.int x23), none, none, none]) (ea_at dt_X12_readBird 46 rfl) (ea_lt rfl) rfl ?_
  refine ev_iload (ea_at dt_X12_readBird 47 rfl) rfl ?_
  refine ev_if_ge (tgt := 94) (ea_at dt_X12_readBird 48 rfl) rfl (fun _ => ?_) (fun _ => ?_)
  · refine ev_aload_n (ea_at dt_X12_readBird 51 rfl) rfl ?_
    refine ev_ldcS (j := 50) (ea_at dt_X12_readBird 52 rfl) rfl ?_
    refine ev_iconst (ea_at dt_X12_readBird 53 rfl) ic_0 ?_
    refine ev_iconst (ea_at dt_X12_readBird 54 rfl) ic_5 ?_
    refine ev_clI (F1 := F_X12_after) (fun rY mY hY => ea_runV (As := [.ref (1000 + 50), .int 0, .int 5]) (ea_at dt_X12_readBird 55 rfl) ml_X12_134 mv_X12_after (ok_X12_after G 50 0 5 m24 (by decide) rY mY hY) sh_272 rfl rfl rfl (Nat.le_of_ble_eq_true rfl) rfl) rfl (fun r26 m25 => ?_)
    exact ev_drop (l' := [some (.ref 272), some (.int x20), some (.int x21), some (.int x22), some (.int x23), none, none, none]) ⟨Or.inr rfl, Or.inr rfl, Or.inr rfl, Or.inr rfl, Or.inr rfl, Or.inl rfl, Or.inl rfl, Or.inl rfl, trivial⟩ (jn_X12_readBird_102 G x20 x21 x22 x23 r26 m25  hR)
  · refine ev_iconst (ea_at dt_X12_readBird 49 rfl) ic_m1 ?_
    refine ev_goto (tgt := 102) (ea_at dt_X12_readBird 50 rfl) rfl ?_
    exact ev_drop (l' := [some (.ref 272), some (.int x20), some (.int x21), some (.int x22), some (.int x23), none, none, none]) ⟨Or.inr rfl, Or.inr rfl, Or.inr rfl, Or.inr rfl, Or.inr rfl, Or.inl rfl, Or.inl rfl, Or.inl rfl, trivial⟩ (jn_X12_readBird_102 G x20 x21 x22 x23 (-1) m24  hR)
set_option maxHeartbeats 300000 in
theorem jn_X12_readBird_53 (G : ea_G) {res : ea_O}  (x12 : Int32) (x13 : Int32) (x14 : Int32) (m15 : ea_M)  {Φ : (Int32 × ea_M) → Prop} (hR : ∀ t : Int32 × ea_M, Φ t → res = (0, t)) : ea_E G F_X12_readBird res 53 [some (.ref 272), some (.int x12), some (.int x13), none, none, none, none, none] [.int x14] m15 0 0 (f_X12_readBird_j53 x12 x13 x14 m15) Φ := by
  unfold f_X12_readBird_j53
  refine ev_istore_n (ls' := [some (.ref 272), some (.int x12), some (.int x13), some (.int x14), none, none, none, none]) (ea_at dt_X12_readBird 30 rfl) (ea_lt rfl) rfl ?_
  refine ev_iload_n (ea_at dt_X12_readBird 31 rfl) rfl ?_
  refine ev_if_ge (tgt := 60) (ea_at dt_X12_readBird 32 rfl) rfl (fun _ => ?_) (fun _ => ?_)
  · refine ev_aload_n (ea_at dt_X12_readBird 35 rfl) rfl ?_
    refine ev_clU (F1 := F_X12_letters) (fun rY mY hY => ea_runV (As := []) (ea_at dt_X12_readBird 36 rfl) ml_X12_117 mv_X12_letters (ok_X12_letters G m15  rY mY hY) sh_272 rfl rfl rfl (Nat.le_of_ble_eq_true rfl) rfl) rfl (fun r17 m16 => ?_)
    refine ev_aload_n (ea_at dt_X12_readBird 37 rfl) rfl ?_
    refine ev_ldcS (j := 49) (ea_at dt_X12_readBird 38 rfl) rfl ?_
    refine ev_clI (F1 := F_X12_isWord) (fun rY mY hY => ea_runV (As := [.ref (1000 + 49)]) (ea_at dt_X12_readBird 39 rfl) ml_X12_120 mv_X12_isWord (ok_X12_isWord G 49 m16 (by decide) rY mY hY) sh_272 rfl rfl rfl (Nat.le_of_ble_eq_true rfl) rfl) rfl (fun r19 m18 => ?_)
    refine ev_if_eq (tgt := 82) (ea_at dt_X12_readBird 40 rfl) rfl (fun _ => ?_) (fun _ => ?_)
    · refine ev_iconst (ea_at dt_X12_readBird 45 rfl) ic_m1 ?_
      exact ev_drop (l' := [some (.ref 272), some (.int x12), some (.int x13), some (.int x14), none, none, none, none]) ⟨Or.inr rfl, Or.inr rfl, Or.inr rfl, Or.inr rfl, Or.inl rfl, Or.inl rfl, Or.inl rfl, Or.inl rfl, trivial⟩ (jn_X12_readBird_83 G x12 x13 x14 (-1) m18  hR)
    · refine ev_aload_n (ea_at dt_X12_readBird 41 rfl) rfl ?_
      refine ev_bipush (ea_at dt_X12_readBird 42 rfl) bp_6 ?_
      refine ev_clI (F1 := F_X12_lettersTold) (fun rY mY hY => ea_runV (As := [.int 6]) (ea_at dt_X12_readBird 43 rfl) ml_X12_140 mv_X12_lettersTold (ok_X12_lettersTold G 6 m18  rY mY hY) sh_272 rfl rfl rfl (Nat.le_of_ble_eq_true rfl) rfl) rfl (fun r44 m43 => ?_)
      refine ev_goto (tgt := 83) (ea_at dt_X12_readBird 44 rfl) rfl ?_
      exact ev_drop (l' := [some (.ref 272), some (.int x12), some (.int x13), some (.int x14), none, none, none, none]) ⟨Or.inr rfl, Or.inr rfl, Or.inr rfl, Or.inr rfl, Or.inl rfl, Or.inl rfl, Or.inl rfl, Or.inl rfl, trivial⟩ (jn_X12_readBird_83 G x12 x13 x14 r44 m43  hR)
  · refine ev_iconst (ea_at dt_X12_readBird 33 rfl) ic_0 ?_
    exact ev_zret (by decide) (ea_at dt_X12_readBird 34 rfl) rfl ⟨by decide, by decide⟩ (fun h => hR _ h)
set_option maxHeartbeats 300000 in
theorem jn_X12_readBird_36 (G : ea_G) {res : ea_O}  (x7 : Int32) (x8 : Int32) (m9 : ea_M)  {Φ : (Int32 × ea_M) → Prop} (hR : ∀ t : Int32 × ea_M, Φ t → res = (0, t)) : ea_E G F_X12_readBird res 36 [some (.ref 272), some (.int x7), none, none, none, none, none, none] [.int x8] m9 0 0 (f_X12_readBird_j36 x7 x8 m9) Φ := by
  unfold f_X12_readBird_j36
  refine ev_istore_n (ls' := [some (.ref 272), some (.int x7), some (.int x8), none, none, none, none, none]) (ea_at dt_X12_readBird 20 rfl) (ea_lt rfl) rfl ?_
  refine ev_iload_n (ea_at dt_X12_readBird 21 rfl) rfl ?_
  refine ev_if_ge (tgt := 45) (ea_at dt_X12_readBird 22 rfl) rfl (fun _ => ?_) (fun _ => ?_)
  · refine ev_aload_n (ea_at dt_X12_readBird 25 rfl) rfl ?_
    refine ev_ldcS (j := 48) (ea_at dt_X12_readBird 26 rfl) rfl ?_
    refine ev_iconst (ea_at dt_X12_readBird 27 rfl) ic_0 ?_
    refine ev_iconst (ea_at dt_X12_readBird 28 rfl) ic_3 ?_
    refine ev_clI (F1 := F_X12_after) (fun rY mY hY => ea_runV (As := [.ref (1000 + 48), .int 0, .int 3]) (ea_at dt_X12_readBird 29 rfl) ml_X12_134 mv_X12_after (ok_X12_after G 48 0 3 m9 (by decide) rY mY hY) sh_272 rfl rfl rfl (Nat.le_of_ble_eq_true rfl) rfl) rfl (fun r11 m10 => ?_)
    exact ev_drop (l' := [some (.ref 272), some (.int x7), some (.int x8), none, none, none, none, none]) ⟨Or.inr rfl, Or.inr rfl, Or.inr rfl, Or.inl rfl, Or.inl rfl, Or.inl rfl, Or.inl rfl, Or.inl rfl, trivial⟩ (jn_X12_readBird_53 G x7 x8 r11 m10  hR)
  · refine ev_iconst (ea_at dt_X12_readBird 23 rfl) ic_m1 ?_
    refine ev_goto (tgt := 53) (ea_at dt_X12_readBird 24 rfl) rfl ?_
    exact ev_drop (l' := [some (.ref 272), some (.int x7), some (.int x8), none, none, none, none, none]) ⟨Or.inr rfl, Or.inr rfl, Or.inr rfl, Or.inl rfl, Or.inl rfl, Or.inl rfl, Or.inl rfl, Or.inl rfl, trivial⟩ (jn_X12_readBird_53 G x7 x8 (-1) m9  hR)
set_option maxHeartbeats 300000 in
theorem ok_X12_readBird (G : ea_G) (m : ea_M)  (rZ : Int32) (mZ : ea_M) (hZ : f_X12_readBird m = some (rZ, mZ)) : ea_Met G yX12_readBird F_X12_readBird [.ref 272] m (0, rZ, mZ) := by
  refine ea_met (F := F_X12_readBird) (by decide +kernel) rfl rfl (Nat.le_of_ble_eq_true rfl) (by simp only [List.mem_cons, List.not_mem_nil, or_false]; intro v hv; rcases hv with rfl <;> rfl) ((?_ : ea_E G F_X12_readBird (0, rZ, mZ) 0 [some (.ref 272), none, none, none, none, none, none, none] [] m 0 0 (f_X12_readBird m) (fun t => t = (rZ, mZ))) (rZ, mZ) hZ rfl)
  have hR : ∀ t : Int32 × ea_M, t = (rZ, mZ) → ((0, rZ, mZ) : ea_O) = (0, t) := fun t h => by rw [h]
  unfold f_X12_readBird
  refine ev_aload_n (ea_at dt_X12_readBird 0 rfl) rfl ?_
  refine ev_clI (F1 := F_X12_birds) (fun rY mY hY => ea_runV (As := []) (ea_at dt_X12_readBird 1 rfl) ml_X12_74 mv_X12_birds (ok_X12_birds G m  rY mY hY) sh_272 rfl rfl rfl (Nat.le_of_ble_eq_true rfl) rfl) rfl (fun r2 m1 => ?_)
  refine ev_istore_n (ls' := [some (.ref 272), some (.int r2), none, none, none, none, none, none]) (ea_at dt_X12_readBird 2 rfl) (ea_lt rfl) rfl ?_
  refine ev_iload_n (ea_at dt_X12_readBird 3 rfl) rfl ?_
  refine ev_bipush (ea_at dt_X12_readBird 4 rfl) bp_6 ?_
  refine ev_icmp_ne (tgt := 13) (ea_at dt_X12_readBird 5 rfl) rfl (fun _ => ?_) (fun _ => ?_)
  · refine ev_iconst (ea_at dt_X12_readBird 6 rfl) ic_0 ?_
    exact ev_zret (by decide) (ea_at dt_X12_readBird 7 rfl) rfl ⟨by decide, by decide⟩ (fun h => hR _ h)
  · refine ev_aload_n (ea_at dt_X12_readBird 8 rfl) rfl ?_
    refine ev_clU (F1 := F_X12_letters) (fun rY mY hY => ea_runV (As := []) (ea_at dt_X12_readBird 9 rfl) ml_X12_117 mv_X12_letters (ok_X12_letters G m1  rY mY hY) sh_272 rfl rfl rfl (Nat.le_of_ble_eq_true rfl) rfl) rfl (fun r4 m3 => ?_)
    refine ev_aload_n (ea_at dt_X12_readBird 10 rfl) rfl ?_
    refine ev_ldcS (j := 47) (ea_at dt_X12_readBird 11 rfl) rfl ?_
    refine ev_clI (F1 := F_X12_isWord) (fun rY mY hY => ea_runV (As := [.ref (1000 + 47)]) (ea_at dt_X12_readBird 12 rfl) ml_X12_120 mv_X12_isWord (ok_X12_isWord G 47 m3 (by decide) rY mY hY) sh_272 rfl rfl rfl (Nat.le_of_ble_eq_true rfl) rfl) rfl (fun r6 m5 => ?_)
    refine ev_if_eq (tgt := 35) (ea_at dt_X12_readBird 13 rfl) rfl (fun _ => ?_) (fun _ => ?_)
    · refine ev_iconst (ea_at dt_X12_readBird 19 rfl) ic_m1 ?_
      exact ev_drop (l' := [some (.ref 272), some (.int r2), none, none, none, none, none, none]) ⟨Or.inr rfl, Or.inr rfl, Or.inl rfl, Or.inl rfl, Or.inl rfl, Or.inl rfl, Or.inl rfl, Or.inl rfl, trivial⟩ (jn_X12_readBird_36 G r2 (-1) m5  hR)
    · refine ev_aload_n (ea_at dt_X12_readBird 14 rfl) rfl ?_
      refine ev_iconst (ea_at dt_X12_readBird 15 rfl) ic_0 ?_
      refine ev_iconst (ea_at dt_X12_readBird 16 rfl) ic_4 ?_
      refine ev_clI (F1 := F_X12_number) (fun rY mY hY => ea_runV (As := [.int 0, .int 4]) (ea_at dt_X12_readBird 17 rfl) ml_X12_124 mv_X12_number (ok_X12_number G 0 4 m5  rY mY hY) sh_272 rfl rfl rfl (Nat.le_of_ble_eq_true rfl) rfl) rfl (fun r46 m45 => ?_)
      refine ev_goto (tgt := 36) (ea_at dt_X12_readBird 18 rfl) rfl ?_
      exact ev_drop (l' := [some (.ref 272), some (.int r2), none, none, none, none, none, none]) ⟨Or.inr rfl, Or.inr rfl, Or.inl rfl, Or.inl rfl, Or.inl rfl, Or.inl rfl, Or.inl rfl, Or.inl rfl, trivial⟩ (jn_X12_readBird_36 G r2 r46 m45  hR)
def F_X12_readCounsel : ea_F := (ea_rm 10 0 0, cX12_readCounsel, RX12, some .boolean, 3, [], 0, 0)
def D_X12_readCounsel : List (Nat × Instr × Nat) := [(0, .aload_n 0, 1), (1, .invokevirtual 82, 3), (4, .istore_n 1, 1), (5, .iload_n 1, 1), (6, .iconst 4, 1), (7, .if_icmp .ne 5, 3), (10, .iconst 0, 1), (11, .ireturn, 1), (12, .aload_n 0, 1), (13, .invokevirtual 105, 3), (16, .iconst 0, 1), (17, .istore_n 2, 1), (18, .aload_n 0, 1), (19, .bipush 48, 2), (21, .bipush 57, 2), (23, .invokevirtual 98, 3), (26, .ifCond .eq 49, 3), (29, .iload_n 2, 1), (30, .aload_n 0, 1), (31, .invokevirtual 74, 3), (34, .if_icmp .ge 25, 3), (37, .aload_n 0, 1), (38, .getfield 13, 3), (41, .iload_n 1, 1), (42, .iload_n 2, 1), (43, .invokestatic 67, 3), (46, .aload_n 0, 1), (47, .getfield 29, 3), (50, .aload_n 0, 1), (51, .getfield 92, 3), (54, .baload, 1), (55, .bipush 48, 2), (57, .isub, 1), (58, .iastore, 1), (59, .iinc 2 1, 3), (62, .aload_n 0, 1), (63, .dup, 1), (64, .getfield 92, 3), (67, .iconst 1, 1), (68, .iadd, 1), (69, .putfield 92, 3), (72, .goto (-54), 3), (75, .iload_n 2, 1), (76, .ifCond .eq 11, 3), (79, .iload_n 2, 1), (80, .aload_n 0, 1), (81, .invokevirtual 74, 3), (84, .if_icmp .eq 5, 3), (87, .iconst 0, 1), (88, .ireturn, 1), (89, .aload_n 0, 1), (90, .getfield 13, 3), (93, .iconst 1, 1), (94, .dup2, 1), (95, .iaload, 1), (96, .iconst 1, 1), (97, .iadd, 1), (98, .iastore, 1), (99, .iconst 1, 1), (100, .ireturn, 1)]
theorem dt_X12_readCounsel : ∀ q ∈ D_X12_readCounsel, decode cX12_readCounsel q.1 = .ok q.2 := by decide +kernel
theorem mv_X12_readCounsel : ea_MV yX12_readCounsel (F_X12_readCounsel) 0 := ⟨⟨List.mem_append_right _ (List.mem_of_getElem? (i := 13) (by decide +kernel)), List.mem_append_right _ (List.mem_of_getElem? (i := 1597) (by decide +kernel)), ⟨by decide, by decide⟩, by decide +kernel⟩, List.mem_append_right _ (List.mem_of_getElem? (i := 1596) (by decide +kernel)), List.mem_append_left _ (List.mem_of_getElem? (i := 55) (by decide +kernel))⟩
def f_X12_readCounsel_j59 (r2 : Int32) (x9 : Int32) (m10 : ea_M) : Option ((Int32 × ea_M) ⊕ (Int32 × ea_M)) :=
  ea_bd (m10 272 10) fun x11 =>
  ea_bd (ea_st m10 272 10 (x11 + 1)) fun m12 =>
  some (.inl (x9 + 1, m12))
def f_X12_readCounsel_s18 (r2 : Int32)  (s18 : Int32 × ea_M) : Option ((Int32 × ea_M) ⊕ (Int32 × ea_M)) :=
  ea_cl (f_X12_isAt 48 57 s18.2) fun r6 m5 =>
  if r6 = 0 then
  some (.inr (s18.1, m5))
  else
  ea_cl (f_X12_birds m5) fun r8 m7 =>
  if r8 ≤ s18.1 then
  f_X12_readCounsel_j59 r2 s18.1 m7
  else
  ea_cl (f_X12_stockAt r2 s18.1 m7) fun r14 m13 =>
  ea_bd (m13 272 10) fun x15 =>
  ea_g x15 400 (ea_bd (m13 278 (Int32.toNatClampNeg x15)) fun x16 =>
  ea_g r14 2180 (ea_bd (ea_st m13 273 (Int32.toNatClampNeg r14) (x16 - 48)) fun m17 =>
  f_X12_readCounsel_j59 r2 s18.1 m17))
def f_X12_readCounsel (m : ea_M) : Option (Int32 × ea_M) :=
  ea_cl (f_X12_counsel m) fun r2 m1 =>
  if r2 = 4 then
  some (0, m1)
  else
  ea_cl (f_X12_blanks m1) fun r4 m3 =>
  (ea_loop (f_X12_readCounsel_s18 r2) ea_fuel (0, m3)).bind (fun x18s =>
  if x18s.1 = 0 then
  some (0, x18s.2)
  else
  ea_cl (f_X12_birds x18s.2) fun r19 m18 =>
  if x18s.1 = r19 then
  ea_bd (m18 273 1) fun x20 =>
  ea_bd (ea_st m18 273 1 (x20 + 1)) fun m21 =>
  some (1, m21)
  else
  some (0, m18))
set_option maxHeartbeats 300000 in
theorem jn_X12_readCounsel_59 (G : ea_G) {res : ea_O}  (r2 : Int32) (x9 : Int32) (m10 : ea_M)  {Φ : ((Int32 × ea_M) ⊕ (Int32 × ea_M)) → Prop} (hC : ∀ s18 : Int32 × ea_M, Φ (.inl s18) → ea_Ev G F_X12_readCounsel res 18 [some (.ref 272), some (.int r2), some (.int s18.1)] [] s18.2 0 0) (hX : ∀ x18s : Int32 × ea_M, Φ (.inr x18s) → ea_Ev G F_X12_readCounsel res 75 [some (.ref 272), none, some (.int x18s.1)] [] x18s.2 0 0) : ea_E G F_X12_readCounsel res 59 [some (.ref 272), some (.int r2), some (.int x9)] [] m10 0 0 (f_X12_readCounsel_j59 r2 x9 m10) Φ := by
  unfold f_X12_readCounsel_j59
  refine ev_iinc (ls' := [some (.ref 272), some (.int r2), some (.int (x9 + 1))]) (ea_at dt_X12_readCounsel 34 rfl) rfl (congrArg (fun z => _ + z) ic_1) (ea_lt rfl) rfl ?_
  refine ev_aload_n (ea_at dt_X12_readCounsel 35 rfl) rfl ?_
  refine ev_dup (ea_at dt_X12_readCounsel 36 rfl) rfl ?_
  refine ev_getI (ea_at dt_X12_readCounsel 37 rfl) fl_X12_92 sh_272 rfl ?_
  refine ev_i (fun x11 => ?_)
  refine ev_iconst (ea_at dt_X12_readCounsel 38 rfl) ic_1 ?_
  refine ev_iadd (ea_at dt_X12_readCounsel 39 rfl) ?_
  refine ev_putI (ea_at dt_X12_readCounsel 40 rfl) fl_X12_92 fp_12_10 sh_272 rfl ?_
  refine ev_m (fun m12 => ?_)
  refine ev_goto (tgt := 18) (ea_at dt_X12_readCounsel 41 rfl) rfl ?_
  exact ev_leaf (fun h => ea_drop (l' := [some (.ref 272), some (.int r2), some (.int (x9 + 1))]) ⟨Or.inr rfl, Or.inr rfl, Or.inr rfl, trivial⟩ (hC (x9 + 1, m12) h))
set_option maxHeartbeats 300000 in
theorem lp_X12_readCounsel_18 (G : ea_G) {res : ea_O}  (r2 : Int32)  {Ψ : (Int32 × ea_M) → Prop} (hX : ∀ x18s : Int32 × ea_M, Ψ x18s → ea_Ev G F_X12_readCounsel res 75 [some (.ref 272), none, some (.int x18s.1)] [] x18s.2 0 0) : ∀ (f : Nat) (s18 : Int32 × ea_M), ea_E G F_X12_readCounsel res 18 [some (.ref 272), some (.int r2), some (.int s18.1)] [] s18.2 0 0 (ea_loop (f_X12_readCounsel_s18 r2) f s18) Ψ := by
  refine ev_loop (G := G) (F := F_X12_readCounsel) (res := res) (pc := 18) (st := []) (k := 0) (n := 0) (step := (f_X12_readCounsel_s18 r2)) (Ψ := Ψ) (fun (s18 : Int32 × ea_M) => [some (.ref 272), some (.int r2), some (.int s18.1)]) (fun (s18 : Int32 × ea_M) => s18.2) (fun s18 => ?_)
  have hC : ∀ s18 : Int32 × ea_M, (Sum.elim (fun s18 : Int32 × ea_M => ea_Ev G F_X12_readCounsel res 18 [some (.ref 272), some (.int r2), some (.int s18.1)] [] s18.2 0 0) Ψ) (.inl s18) → ea_Ev G F_X12_readCounsel res 18 [some (.ref 272), some (.int r2), some (.int s18.1)] [] s18.2 0 0 := fun _ h => h
  have hX : ∀ x18s : Int32 × ea_M, (Sum.elim (fun s18 : Int32 × ea_M => ea_Ev G F_X12_readCounsel res 18 [some (.ref 272), some (.int r2), some (.int s18.1)] [] s18.2 0 0) Ψ) (.inr x18s) → ea_Ev G F_X12_readCounsel res 75 [some (.ref 272), none, some (.int x18s.1)] [] x18s.2 0 0 := hX
  unfold f_X12_readCounsel_s18
  refine ev_aload_n (ea_at dt_X12_readCounsel 12 rfl) rfl ?_
  refine ev_bipush (ea_at dt_X12_readCounsel 13 rfl) bp_48 ?_
  refine ev_bipush (ea_at dt_X12_readCounsel 14 rfl) bp_57 ?_
  refine ev_clI (F1 := F_X12_isAt) (fun rY mY hY => ea_runV (As := [.int 48, .int 57]) (ea_at dt_X12_readCounsel 15 rfl) ml_X12_98 mv_X12_isAt (ok_X12_isAt G 48 57 s18.2  rY mY hY) sh_272 rfl rfl rfl (Nat.le_of_ble_eq_true rfl) rfl) rfl (fun r6 m5 => ?_)
  refine ev_if_eq (tgt := 75) (ea_at dt_X12_readCounsel 16 rfl) rfl (fun _ => ?_) (fun _ => ?_)
  · exact ev_leaf (fun h => ea_drop (l' := [some (.ref 272), none, some (.int s18.1)]) ⟨Or.inr rfl, Or.inl rfl, Or.inr rfl, trivial⟩ (hX (s18.1, m5) h))
  · refine ev_iload_n (ea_at dt_X12_readCounsel 17 rfl) rfl ?_
    refine ev_aload_n (ea_at dt_X12_readCounsel 18 rfl) rfl ?_
    refine ev_clI (F1 := F_X12_birds) (fun rY mY hY => ea_runV (As := []) (ea_at dt_X12_readCounsel 19 rfl) ml_X12_74 mv_X12_birds (ok_X12_birds G m5  rY mY hY) sh_272 rfl rfl rfl (Nat.le_of_ble_eq_true rfl) rfl) rfl (fun r8 m7 => ?_)
    refine ev_icmp_ge (tgt := 59) (ea_at dt_X12_readCounsel 20 rfl) rfl (fun _ => ?_) (fun _ => ?_)
    · exact ev_drop (l' := [some (.ref 272), some (.int r2), some (.int s18.1)]) ⟨Or.inr rfl, Or.inr rfl, Or.inr rfl, trivial⟩ (jn_X12_readCounsel_59 G r2 s18.1 m7  hC hX)
    · refine ev_aload_n (ea_at dt_X12_readCounsel 21 rfl) rfl ?_
      refine ev_getR (ea_at dt_X12_readCounsel 22 rfl) fl_X12_13 sh_272 rfl ?_
      refine ev_iload_n (ea_at dt_X12_readCounsel 23 rfl) rfl ?_
      refine ev_iload_n (ea_at dt_X12_readCounsel 24 rfl) rfl ?_
      refine ev_clI (F1 := F_X12_stockAt) (fun rY mY hY => ea_runS (As := [.int r2, .int s18.1]) (ea_at dt_X12_readCounsel 25 rfl) ml_X12_67 mv_X12_stockAt (ok_X12_stockAt G r2 s18.1 m7  rY mY hY) rfl rfl (Nat.le_of_ble_eq_true rfl) rfl) rfl (fun r14 m13 => ?_)
      refine ev_aload_n (ea_at dt_X12_readCounsel 26 rfl) rfl ?_
      refine ev_getR (ea_at dt_X12_readCounsel 27 rfl) fl_X12_29 sh_272 rfl ?_
      refine ev_aload_n (ea_at dt_X12_readCounsel 28 rfl) rfl ?_
      refine ev_getI (ea_at dt_X12_readCounsel 29 rfl) fl_X12_92 sh_272 rfl ?_
      refine ev_i (fun x15 => ?_)
      refine ev_baload (ea_at dt_X12_readCounsel 30 rfl) sh_278 ?_
      refine ev_i (fun x16 => ?_)
      refine ev_bipush (ea_at dt_X12_readCounsel 31 rfl) bp_48 ?_
      refine ev_isub (ea_at dt_X12_readCounsel 32 rfl) ?_
      refine ev_iastore (ea_at dt_X12_readCounsel 33 rfl) sh_273 (by decide) ?_
      refine ev_m (fun m17 => ?_)
      exact ev_drop (l' := [some (.ref 272), some (.int r2), some (.int s18.1)]) ⟨Or.inr rfl, Or.inr rfl, Or.inr rfl, trivial⟩ (jn_X12_readCounsel_59 G r2 s18.1 m17  hC hX)
set_option maxHeartbeats 300000 in
theorem ok_X12_readCounsel (G : ea_G) (m : ea_M)  (rZ : Int32) (mZ : ea_M) (hZ : f_X12_readCounsel m = some (rZ, mZ)) : ea_Met G yX12_readCounsel F_X12_readCounsel [.ref 272] m (0, rZ, mZ) := by
  refine ea_met (F := F_X12_readCounsel) (by decide +kernel) rfl rfl (Nat.le_of_ble_eq_true rfl) (by simp only [List.mem_cons, List.not_mem_nil, or_false]; intro v hv; rcases hv with rfl <;> rfl) ((?_ : ea_E G F_X12_readCounsel (0, rZ, mZ) 0 [some (.ref 272), none, none] [] m 0 0 (f_X12_readCounsel m) (fun t => t = (rZ, mZ))) (rZ, mZ) hZ rfl)
  have hR : ∀ t : Int32 × ea_M, t = (rZ, mZ) → ((0, rZ, mZ) : ea_O) = (0, t) := fun t h => by rw [h]
  unfold f_X12_readCounsel
  refine ev_aload_n (ea_at dt_X12_readCounsel 0 rfl) rfl ?_
  refine ev_clI (F1 := F_X12_counsel) (fun rY mY hY => ea_runV (As := []) (ea_at dt_X12_readCounsel 1 rfl) ml_X12_82 mv_X12_counsel (ok_X12_counsel G m  rY mY hY) sh_272 rfl rfl rfl (Nat.le_of_ble_eq_true rfl) rfl) rfl (fun r2 m1 => ?_)
  refine ev_istore_n (ls' := [some (.ref 272), some (.int r2), none]) (ea_at dt_X12_readCounsel 2 rfl) (ea_lt rfl) rfl ?_
  refine ev_iload_n (ea_at dt_X12_readCounsel 3 rfl) rfl ?_
  refine ev_iconst (ea_at dt_X12_readCounsel 4 rfl) ic_4 ?_
  refine ev_icmp_ne (tgt := 12) (ea_at dt_X12_readCounsel 5 rfl) rfl (fun _ => ?_) (fun _ => ?_)
  · refine ev_iconst (ea_at dt_X12_readCounsel 6 rfl) ic_0 ?_
    exact ev_zret (by decide) (ea_at dt_X12_readCounsel 7 rfl) rfl ⟨by decide, by decide⟩ (fun h => hR _ h)
  · refine ev_aload_n (ea_at dt_X12_readCounsel 8 rfl) rfl ?_
    refine ev_clU (F1 := F_X12_blanks) (fun rY mY hY => ea_runV (As := []) (ea_at dt_X12_readCounsel 9 rfl) ml_X12_105 mv_X12_blanks (ok_X12_blanks G m1  rY mY hY) sh_272 rfl rfl rfl (Nat.le_of_ble_eq_true rfl) rfl) rfl (fun r4 m3 => ?_)
    refine ev_iconst (ea_at dt_X12_readCounsel 10 rfl) ic_0 ?_
    refine ev_istore_n (ls' := [some (.ref 272), some (.int r2), some (.int 0)]) (ea_at dt_X12_readCounsel 11 rfl) (ea_lt rfl) rfl ?_
    refine ev_drop (l' := [some (.ref 272), some (.int r2), some (.int 0)]) ⟨Or.inr rfl, Or.inr rfl, Or.inr rfl, trivial⟩ ?_
    refine ev_bind (lp_X12_readCounsel_18 G r2   (fun x18s h => ?_) ea_fuel (0, m3))
    obtain ⟨t1, e1, q1⟩ := h
    refine (?_ : ea_E G F_X12_readCounsel (0, rZ, mZ) 75 [some (.ref 272), none, some (.int x18s.1)] [] x18s.2 0 0 _ (fun t => t = (rZ, mZ))) t1 e1 q1
    refine ev_iload_n (ea_at dt_X12_readCounsel 42 rfl) rfl ?_
    refine ev_if_eq (tgt := 87) (ea_at dt_X12_readCounsel 43 rfl) rfl (fun _ => ?_) (fun _ => ?_)
    · refine ev_iconst (ea_at dt_X12_readCounsel 48 rfl) ic_0 ?_
      exact ev_zret (by decide) (ea_at dt_X12_readCounsel 49 rfl) rfl ⟨by decide, by decide⟩ (fun h => hR _ h)
    · refine ev_iload_n (ea_at dt_X12_readCounsel 44 rfl) rfl ?_
      refine ev_aload_n (ea_at dt_X12_readCounsel 45 rfl) rfl ?_
      refine ev_clI (F1 := F_X12_birds) (fun rY mY hY => ea_runV (As := []) (ea_at dt_X12_readCounsel 46 rfl) ml_X12_74 mv_X12_birds (ok_X12_birds G x18s.2  rY mY hY) sh_272 rfl rfl rfl (Nat.le_of_ble_eq_true rfl) rfl) rfl (fun r19 m18 => ?_)
      refine ev_icmp_eq (tgt := 89) (ea_at dt_X12_readCounsel 47 rfl) rfl (fun _ => ?_) (fun _ => ?_)
      · refine ev_aload_n (ea_at dt_X12_readCounsel 50 rfl) rfl ?_
        refine ev_getR (ea_at dt_X12_readCounsel 51 rfl) fl_X12_13 sh_272 rfl ?_
        refine ev_iconst (ea_at dt_X12_readCounsel 52 rfl) ic_1 ?_
        refine ev_dup2 (ea_at dt_X12_readCounsel 53 rfl) rfl rfl ?_
        refine ev_ialoadC (j := 1) (ea_at dt_X12_readCounsel 54 rfl) sh_273 (by decide) (by decide) (by decide) (by decide) ?_
        refine ev_i (fun x20 => ?_)
        refine ev_iconst (ea_at dt_X12_readCounsel 55 rfl) ic_1 ?_
        refine ev_iadd (ea_at dt_X12_readCounsel 56 rfl) ?_
        refine ev_iastoreC (j := 1) (ea_at dt_X12_readCounsel 57 rfl) sh_273 (by decide) (by decide) (by decide) (by decide) ?_
        refine ev_m (fun m21 => ?_)
        refine ev_iconst (ea_at dt_X12_readCounsel 58 rfl) ic_1 ?_
        exact ev_zret (by decide) (ea_at dt_X12_readCounsel 59 rfl) rfl ⟨by decide, by decide⟩ (fun h => hR _ h)
      · refine ev_iconst (ea_at dt_X12_readCounsel 48 rfl) ic_0 ?_
        exact ev_zret (by decide) (ea_at dt_X12_readCounsel 49 rfl) rfl ⟨by decide, by decide⟩ (fun h => hR _ h)
def F_X12_readCase : ea_F := (ea_rm 14 0 0, cX12_readCase, RX12, some .boolean, 5, [], 0, 0)
def D_X12_readCase : List (Nat × Instr × Nat) := [(0, .aload_n 0, 1), (1, .invokevirtual 85, 3), (4, .istore_n 1, 1), (5, .iload_n 1, 1), (6, .bipush 12, 2), (8, .if_icmp .ne 5, 3), (11, .iconst 0, 1), (12, .ireturn, 1), (13, .aload_n 0, 1), (14, .iconst 0, 1), (15, .aload_n 0, 1), (16, .invokevirtual 82, 3), (19, .iconst 1, 1), (20, .isub, 1), (21, .invokevirtual 124, 3), (24, .istore_n 2, 1), (25, .iload_n 2, 1), (26, .ifCond .ge 7, 3), (29, .iconst (-1), 1), (30, .goto 14, 3), (33, .aload_n 0, 1), (34, .iconst 0, 1), (35, .aload_n 0, 1), (36, .invokevirtual 82, 3), (39, .iconst 1, 1), (40, .isub, 1), (41, .invokevirtual 124, 3), (44, .istore_n 3, 1), (45, .iload_n 3, 1), (46, .ifCond .lt 8, 3), (49, .iload_n 3, 1), (50, .iload_n 2, 1), (51, .if_icmp .ne 5, 3), (54, .iconst 0, 1), (55, .ireturn, 1), (56, .aload_n 0, 1), (57, .invokevirtual 117, 3), (60, .aload_n 0, 1), (61, .ldc 146, 2), (63, .invokevirtual 120, 3), (66, .ifCond .eq 14, 3), (69, .aload_n 0, 1), (70, .aload_n 0, 1), (71, .invokevirtual 74, 3), (74, .invokevirtual 140, 3), (77, .goto 4, 3), (80, .iconst (-1), 1), (81, .istore 4, 2), (83, .iload 4, 2), (85, .ifCond .ge 5, 3), (88, .iconst 0, 1), (89, .ireturn, 1), (90, .aload_n 0, 1), (91, .getfield 13, 3), (94, .iload_n 1, 1), (95, .iconst 0, 1), (96, .invokestatic 71, 3), (99, .iload_n 2, 1), (100, .iastore, 1), (101, .aload_n 0, 1), (102, .getfield 13, 3), (105, .iload_n 1, 1), (106, .iconst 1, 1), (107, .invokestatic 71, 3), (110, .iload_n 3, 1), (111, .iastore, 1), (112, .aload_n 0, 1), (113, .getfield 13, 3), (116, .iload_n 1, 1), (117, .iconst 2, 1), (118, .invokestatic 71, 3), (121, .iload 4, 2), (123, .iastore, 1), (124, .aload_n 0, 1), (125, .getfield 13, 3), (128, .iload_n 1, 1), (129, .iconst 3, 1), (130, .invokestatic 71, 3), (133, .iconst 0, 1), (134, .iastore, 1), (135, .aload_n 0, 1), (136, .getfield 13, 3), (139, .iconst 2, 1), (140, .dup2, 1), (141, .iaload, 1), (142, .iconst 1, 1), (143, .iadd, 1), (144, .iastore, 1), (145, .iconst 1, 1), (146, .ireturn, 1)]
theorem dt_X12_readCase : ∀ q ∈ D_X12_readCase, decode cX12_readCase q.1 = .ok q.2 := by decide +kernel
theorem mv_X12_readCase : ea_MV yX12_readCase (F_X12_readCase) 0 := ⟨⟨List.mem_append_right _ (List.mem_of_getElem? (i := 13) (by decide +kernel)), List.mem_append_right _ (List.mem_of_getElem? (i := 1606) (by decide +kernel)), ⟨by decide, by decide⟩, by decide +kernel⟩, List.mem_append_right _ (List.mem_of_getElem? (i := 1605) (by decide +kernel)), List.mem_append_left _ (List.mem_of_getElem? (i := 57) (by decide +kernel))⟩
def f_X12_readCase_j81 (x19 : Int32) (x20 : Int32) (x21 : Int32) (x22 : Int32) (m23 : ea_M) : Option (Int32 × ea_M) :=
  if 0 ≤ x22 then
  ea_cl (f_X12_caseAt x19 0 m23) fun r25 m24 =>
  ea_g r25 2180 (ea_bd (ea_st m24 273 (Int32.toNatClampNeg r25) x20) fun m26 =>
  ea_cl (f_X12_caseAt x19 1 m26) fun r28 m27 =>
  ea_g r28 2180 (ea_bd (ea_st m27 273 (Int32.toNatClampNeg r28) x21) fun m29 =>
  ea_cl (f_X12_caseAt x19 2 m29) fun r31 m30 =>
  ea_g r31 2180 (ea_bd (ea_st m30 273 (Int32.toNatClampNeg r31) x22) fun m32 =>
  ea_cl (f_X12_caseAt x19 3 m32) fun r34 m33 =>
  ea_g r34 2180 (ea_bd (ea_st m33 273 (Int32.toNatClampNeg r34) 0) fun m35 =>
  ea_bd (m35 273 2) fun x36 =>
  ea_bd (ea_st m35 273 2 (x36 + 1)) fun m37 =>
  some (1, m37)))))
  else
  some (0, m23)
def f_X12_readCase_j44 (x11 : Int32) (x12 : Int32) (x13 : Int32) (m14 : ea_M) : Option (Int32 × ea_M) :=
  if x13 < 0 then
  some (0, m14)
  else
  if x13 = x12 then
  some (0, m14)
  else
  ea_cl (f_X12_letters m14) fun r16 m15 =>
  ea_cl (f_X12_isWord 53 m15) fun r18 m17 =>
  if r18 = 0 then
  f_X12_readCase_j81 x11 x12 x13 (-1) m17
  else
  ea_cl (f_X12_birds m17) fun r39 m38 =>
  ea_cl (f_X12_lettersTold r39 m38) fun r41 m40 =>
  f_X12_readCase_j81 x11 x12 x13 r41 m40
def f_X12_readCase (m : ea_M) : Option (Int32 × ea_M) :=
  ea_cl (f_X12_cases m) fun r2 m1 =>
  if r2 = 12 then
  some (0, m1)
  else
  ea_cl (f_X12_counsel m1) fun r4 m3 =>
  ea_cl (f_X12_number 0 (r4 - 1) m3) fun r6 m5 =>
  if 0 ≤ r6 then
  ea_cl (f_X12_counsel m5) fun r8 m7 =>
  ea_cl (f_X12_number 0 (r8 - 1) m7) fun r10 m9 =>
  f_X12_readCase_j44 r2 r6 r10 m9
  else
  f_X12_readCase_j44 r2 r6 (-1) m5
set_option maxHeartbeats 300000 in
theorem jn_X12_readCase_81 (G : ea_G) {res : ea_O}  (x19 : Int32) (x20 : Int32) (x21 : Int32) (x22 : Int32) (m23 : ea_M)  {Φ : (Int32 × ea_M) → Prop} (hR : ∀ t : Int32 × ea_M, Φ t → res = (0, t)) : ea_E G F_X12_readCase res 81 [some (.ref 272), some (.int x19), some (.int x20), some (.int x21), none] [.int x22] m23 0 0 (f_X12_readCase_j81 x19 x20 x21 x22 m23) Φ := by
  unfold f_X12_readCase_j81
  refine ev_istore (ls' := [some (.ref 272), some (.int x19), some (.int x20), some (.int x21), some (.int x22)]) (ea_at dt_X12_readCase 47 rfl) (ea_lt rfl) rfl ?_
  refine ev_iload (ea_at dt_X12_readCase 48 rfl) rfl ?_
  refine ev_if_ge (tgt := 90) (ea_at dt_X12_readCase 49 rfl) rfl (fun _ => ?_) (fun _ => ?_)
  · refine ev_aload_n (ea_at dt_X12_readCase 52 rfl) rfl ?_
    refine ev_getR (ea_at dt_X12_readCase 53 rfl) fl_X12_13 sh_272 rfl ?_
    refine ev_iload_n (ea_at dt_X12_readCase 54 rfl) rfl ?_
    refine ev_iconst (ea_at dt_X12_readCase 55 rfl) ic_0 ?_
    refine ev_clI (F1 := F_X12_caseAt) (fun rY mY hY => ea_runS (As := [.int x19, .int 0]) (ea_at dt_X12_readCase 56 rfl) ml_X12_71 mv_X12_caseAt (ok_X12_caseAt G x19 0 m23  rY mY hY) rfl rfl (Nat.le_of_ble_eq_true rfl) rfl) rfl (fun r25 m24 => ?_)
    refine ev_iload_n (ea_at dt_X12_readCase 57 rfl) rfl ?_
    refine ev_iastore (ea_at dt_X12_readCase 58 rfl) sh_273 (by decide) ?_
    refine ev_m (fun m26 => ?_)
    refine ev_aload_n (ea_at dt_X12_readCase 59 rfl) rfl ?_
    refine ev_getR (ea_at dt_X12_readCase 60 rfl) fl_X12_13 sh_272 rfl ?_
    refine ev_iload_n (ea_at dt_X12_readCase 61 rfl) rfl ?_
    refine ev_iconst (ea_at dt_X12_readCase 62 rfl) ic_1 ?_
    refine ev_clI (F1 := F_X12_caseAt) (fun rY mY hY => ea_runS (As := [.int x19, .int 1]) (ea_at dt_X12_readCase 63 rfl) ml_X12_71 mv_X12_caseAt (ok_X12_caseAt G x19 1 m26  rY mY hY) rfl rfl (Nat.le_of_ble_eq_true rfl) rfl) rfl (fun r28 m27 => ?_)
    refine ev_iload_n (ea_at dt_X12_readCase 64 rfl) rfl ?_
    refine ev_iastore (ea_at dt_X12_readCase 65 rfl) sh_273 (by decide) ?_
    refine ev_m (fun m29 => ?_)
    refine ev_aload_n (ea_at dt_X12_readCase 66 rfl) rfl ?_
    refine ev_getR (ea_at dt_X12_readCase 67 rfl) fl_X12_13 sh_272 rfl ?_
    refine ev_iload_n (ea_at dt_X12_readCase 68 rfl) rfl ?_
    refine ev_iconst (ea_at dt_X12_readCase 69 rfl) ic_2 ?_
    refine ev_clI (F1 := F_X12_caseAt) (fun rY mY hY => ea_runS (As := [.int x19, .int 2]) (ea_at dt_X12_readCase 70 rfl) ml_X12_71 mv_X12_caseAt (ok_X12_caseAt G x19 2 m29  rY mY hY) rfl rfl (Nat.le_of_ble_eq_true rfl) rfl) rfl (fun r31 m30 => ?_)
    refine ev_iload (ea_at dt_X12_readCase 71 rfl) rfl ?_
    refine ev_iastore (ea_at dt_X12_readCase 72 rfl) sh_273 (by decide) ?_
    refine ev_m (fun m32 => ?_)
    refine ev_aload_n (ea_at dt_X12_readCase 73 rfl) rfl ?_
    refine ev_getR (ea_at dt_X12_readCase 74 rfl) fl_X12_13 sh_272 rfl ?_
    refine ev_iload_n (ea_at dt_X12_readCase 75 rfl) rfl ?_
    refine ev_iconst (ea_at dt_X12_readCase 76 rfl) ic_3 ?_
    refine ev_clI (F1 := F_X12_caseAt) (fun rY mY hY => ea_runS (As := [.int x19, .int 3]) (ea_at dt_X12_readCase 77 rfl) ml_X12_71 mv_X12_caseAt (ok_X12_caseAt G x19 3 m32  rY mY hY) rfl rfl (Nat.le_of_ble_eq_true rfl) rfl) rfl (fun r34 m33 => ?_)
    refine ev_iconst (ea_at dt_X12_readCase 78 rfl) ic_0 ?_
    refine ev_iastore (ea_at dt_X12_readCase 79 rfl) sh_273 (by decide) ?_
    refine ev_m (fun m35 => ?_)
    refine ev_aload_n (ea_at dt_X12_readCase 80 rfl) rfl ?_
    refine ev_getR (ea_at dt_X12_readCase 81 rfl) fl_X12_13 sh_272 rfl ?_
    refine ev_iconst (ea_at dt_X12_readCase 82 rfl) ic_2 ?_
    refine ev_dup2 (ea_at dt_X12_readCase 83 rfl) rfl rfl ?_
    refine ev_ialoadC (j := 2) (ea_at dt_X12_readCase 84 rfl) sh_273 (by decide) (by decide) (by decide) (by decide) ?_
    refine ev_i (fun x36 => ?_)
    refine ev_iconst (ea_at dt_X12_readCase 85 rfl) ic_1 ?_
    refine ev_iadd (ea_at dt_X12_readCase 86 rfl) ?_
    refine ev_iastoreC (j := 2) (ea_at dt_X12_readCase 87 rfl) sh_273 (by decide) (by decide) (by decide) (by decide) ?_
    refine ev_m (fun m37 => ?_)
    refine ev_iconst (ea_at dt_X12_readCase 88 rfl) ic_1 ?_
    exact ev_zret (by decide) (ea_at dt_X12_readCase 89 rfl) rfl ⟨by decide, by decide⟩ (fun h => hR _ h)
  · refine ev_iconst (ea_at dt_X12_readCase 50 rfl) ic_0 ?_
    exact ev_zret (by decide) (ea_at dt_X12_readCase 51 rfl) rfl ⟨by decide, by decide⟩ (fun h => hR _ h)
set_option maxHeartbeats 300000 in
theorem jn_X12_readCase_44 (G : ea_G) {res : ea_O}  (x11 : Int32) (x12 : Int32) (x13 : Int32) (m14 : ea_M)  {Φ : (Int32 × ea_M) → Prop} (hR : ∀ t : Int32 × ea_M, Φ t → res = (0, t)) : ea_E G F_X12_readCase res 44 [some (.ref 272), some (.int x11), some (.int x12), none, none] [.int x13] m14 0 0 (f_X12_readCase_j44 x11 x12 x13 m14) Φ := by
  unfold f_X12_readCase_j44
  refine ev_istore_n (ls' := [some (.ref 272), some (.int x11), some (.int x12), some (.int x13), none]) (ea_at dt_X12_readCase 27 rfl) (ea_lt rfl) rfl ?_
  refine ev_iload_n (ea_at dt_X12_readCase 28 rfl) rfl ?_
  refine ev_if_lt (tgt := 54) (ea_at dt_X12_readCase 29 rfl) rfl (fun _ => ?_) (fun _ => ?_)
  · refine ev_iconst (ea_at dt_X12_readCase 33 rfl) ic_0 ?_
    exact ev_zret (by decide) (ea_at dt_X12_readCase 34 rfl) rfl ⟨by decide, by decide⟩ (fun h => hR _ h)
  · refine ev_iload_n (ea_at dt_X12_readCase 30 rfl) rfl ?_
    refine ev_iload_n (ea_at dt_X12_readCase 31 rfl) rfl ?_
    refine ev_icmp_ne (tgt := 56) (ea_at dt_X12_readCase 32 rfl) rfl (fun _ => ?_) (fun _ => ?_)
    · refine ev_iconst (ea_at dt_X12_readCase 33 rfl) ic_0 ?_
      exact ev_zret (by decide) (ea_at dt_X12_readCase 34 rfl) rfl ⟨by decide, by decide⟩ (fun h => hR _ h)
    · refine ev_aload_n (ea_at dt_X12_readCase 35 rfl) rfl ?_
      refine ev_clU (F1 := F_X12_letters) (fun rY mY hY => ea_runV (As := []) (ea_at dt_X12_readCase 36 rfl) ml_X12_117 mv_X12_letters (ok_X12_letters G m14  rY mY hY) sh_272 rfl rfl rfl (Nat.le_of_ble_eq_true rfl) rfl) rfl (fun r16 m15 => ?_)
      refine ev_aload_n (ea_at dt_X12_readCase 37 rfl) rfl ?_
      refine ev_ldcS (j := 53) (ea_at dt_X12_readCase 38 rfl) rfl ?_
      refine ev_clI (F1 := F_X12_isWord) (fun rY mY hY => ea_runV (As := [.ref (1000 + 53)]) (ea_at dt_X12_readCase 39 rfl) ml_X12_120 mv_X12_isWord (ok_X12_isWord G 53 m15 (by decide) rY mY hY) sh_272 rfl rfl rfl (Nat.le_of_ble_eq_true rfl) rfl) rfl (fun r18 m17 => ?_)
      refine ev_if_eq (tgt := 80) (ea_at dt_X12_readCase 40 rfl) rfl (fun _ => ?_) (fun _ => ?_)
      · refine ev_iconst (ea_at dt_X12_readCase 46 rfl) ic_m1 ?_
        exact ev_drop (l' := [some (.ref 272), some (.int x11), some (.int x12), some (.int x13), none]) ⟨Or.inr rfl, Or.inr rfl, Or.inr rfl, Or.inr rfl, Or.inl rfl, trivial⟩ (jn_X12_readCase_81 G x11 x12 x13 (-1) m17  hR)
      · refine ev_aload_n (ea_at dt_X12_readCase 41 rfl) rfl ?_
        refine ev_aload_n (ea_at dt_X12_readCase 42 rfl) rfl ?_
        refine ev_clI (F1 := F_X12_birds) (fun rY mY hY => ea_runV (As := []) (ea_at dt_X12_readCase 43 rfl) ml_X12_74 mv_X12_birds (ok_X12_birds G m17  rY mY hY) sh_272 rfl rfl rfl (Nat.le_of_ble_eq_true rfl) rfl) rfl (fun r39 m38 => ?_)
        refine ev_clI (F1 := F_X12_lettersTold) (fun rY mY hY => ea_runV (As := [.int r39]) (ea_at dt_X12_readCase 44 rfl) ml_X12_140 mv_X12_lettersTold (ok_X12_lettersTold G r39 m38  rY mY hY) sh_272 rfl rfl rfl (Nat.le_of_ble_eq_true rfl) rfl) rfl (fun r41 m40 => ?_)
        refine ev_goto (tgt := 81) (ea_at dt_X12_readCase 45 rfl) rfl ?_
        exact ev_drop (l' := [some (.ref 272), some (.int x11), some (.int x12), some (.int x13), none]) ⟨Or.inr rfl, Or.inr rfl, Or.inr rfl, Or.inr rfl, Or.inl rfl, trivial⟩ (jn_X12_readCase_81 G x11 x12 x13 r41 m40  hR)
set_option maxHeartbeats 300000 in
theorem ok_X12_readCase (G : ea_G) (m : ea_M)  (rZ : Int32) (mZ : ea_M) (hZ : f_X12_readCase m = some (rZ, mZ)) : ea_Met G yX12_readCase F_X12_readCase [.ref 272] m (0, rZ, mZ) := by
  refine ea_met (F := F_X12_readCase) (by decide +kernel) rfl rfl (Nat.le_of_ble_eq_true rfl) (by simp only [List.mem_cons, List.not_mem_nil, or_false]; intro v hv; rcases hv with rfl <;> rfl) ((?_ : ea_E G F_X12_readCase (0, rZ, mZ) 0 [some (.ref 272), none, none, none, none] [] m 0 0 (f_X12_readCase m) (fun t => t = (rZ, mZ))) (rZ, mZ) hZ rfl)
  have hR : ∀ t : Int32 × ea_M, t = (rZ, mZ) → ((0, rZ, mZ) : ea_O) = (0, t) := fun t h => by rw [h]
  unfold f_X12_readCase
  refine ev_aload_n (ea_at dt_X12_readCase 0 rfl) rfl ?_
  refine ev_clI (F1 := F_X12_cases) (fun rY mY hY => ea_runV (As := []) (ea_at dt_X12_readCase 1 rfl) ml_X12_85 mv_X12_cases (ok_X12_cases G m  rY mY hY) sh_272 rfl rfl rfl (Nat.le_of_ble_eq_true rfl) rfl) rfl (fun r2 m1 => ?_)
  refine ev_istore_n (ls' := [some (.ref 272), some (.int r2), none, none, none]) (ea_at dt_X12_readCase 2 rfl) (ea_lt rfl) rfl ?_
  refine ev_iload_n (ea_at dt_X12_readCase 3 rfl) rfl ?_
  refine ev_bipush (ea_at dt_X12_readCase 4 rfl) bp_12 ?_
  refine ev_icmp_ne (tgt := 13) (ea_at dt_X12_readCase 5 rfl) rfl (fun _ => ?_) (fun _ => ?_)
  · refine ev_iconst (ea_at dt_X12_readCase 6 rfl) ic_0 ?_
    exact ev_zret (by decide) (ea_at dt_X12_readCase 7 rfl) rfl ⟨by decide, by decide⟩ (fun h => hR _ h)
  · refine ev_aload_n (ea_at dt_X12_readCase 8 rfl) rfl ?_
    refine ev_iconst (ea_at dt_X12_readCase 9 rfl) ic_0 ?_
    refine ev_aload_n (ea_at dt_X12_readCase 10 rfl) rfl ?_
    refine ev_clI (F1 := F_X12_counsel) (fun rY mY hY => ea_runV (As := []) (ea_at dt_X12_readCase 11 rfl) ml_X12_82 mv_X12_counsel (ok_X12_counsel G m1  rY mY hY) sh_272 rfl rfl rfl (Nat.le_of_ble_eq_true rfl) rfl) rfl (fun r4 m3 => ?_)
    refine ev_iconst (ea_at dt_X12_readCase 12 rfl) ic_1 ?_
    refine ev_isub (ea_at dt_X12_readCase 13 rfl) ?_
    refine ev_clI (F1 := F_X12_number) (fun rY mY hY => ea_runV (As := [.int 0, .int (r4 - 1)]) (ea_at dt_X12_readCase 14 rfl) ml_X12_124 mv_X12_number (ok_X12_number G 0 (r4 - 1) m3  rY mY hY) sh_272 rfl rfl rfl (Nat.le_of_ble_eq_true rfl) rfl) rfl (fun r6 m5 => ?_)
    refine ev_istore_n (ls' := [some (.ref 272), some (.int r2), some (.int r6), none, none]) (ea_at dt_X12_readCase 15 rfl) (ea_lt rfl) rfl ?_
    refine ev_iload_n (ea_at dt_X12_readCase 16 rfl) rfl ?_
    refine ev_if_ge (tgt := 33) (ea_at dt_X12_readCase 17 rfl) rfl (fun _ => ?_) (fun _ => ?_)
    · refine ev_aload_n (ea_at dt_X12_readCase 20 rfl) rfl ?_
      refine ev_iconst (ea_at dt_X12_readCase 21 rfl) ic_0 ?_
      refine ev_aload_n (ea_at dt_X12_readCase 22 rfl) rfl ?_
      refine ev_clI (F1 := F_X12_counsel) (fun rY mY hY => ea_runV (As := []) (ea_at dt_X12_readCase 23 rfl) ml_X12_82 mv_X12_counsel (ok_X12_counsel G m5  rY mY hY) sh_272 rfl rfl rfl (Nat.le_of_ble_eq_true rfl) rfl) rfl (fun r8 m7 => ?_)
      refine ev_iconst (ea_at dt_X12_readCase 24 rfl) ic_1 ?_
      refine ev_isub (ea_at dt_X12_readCase 25 rfl) ?_
      refine ev_clI (F1 := F_X12_number) (fun rY mY hY => ea_runV (As := [.int 0, .int (r8 - 1)]) (ea_at dt_X12_readCase 26 rfl) ml_X12_124 mv_X12_number (ok_X12_number G 0 (r8 - 1) m7  rY mY hY) sh_272 rfl rfl rfl (Nat.le_of_ble_eq_true rfl) rfl) rfl (fun r10 m9 => ?_)
      exact ev_drop (l' := [some (.ref 272), some (.int r2), some (.int r6), none, none]) ⟨Or.inr rfl, Or.inr rfl, Or.inr rfl, Or.inl rfl, Or.inl rfl, trivial⟩ (jn_X12_readCase_44 G r2 r6 r10 m9  hR)
    · refine ev_iconst (ea_at dt_X12_readCase 18 rfl) ic_m1 ?_
      refine ev_goto (tgt := 44) (ea_at dt_X12_readCase 19 rfl) rfl ?_
      exact ev_drop (l' := [some (.ref 272), some (.int r2), some (.int r6), none, none]) ⟨Or.inr rfl, Or.inr rfl, Or.inr rfl, Or.inl rfl, Or.inl rfl, trivial⟩ (jn_X12_readCase_44 G r2 r6 (-1) m5  hR)
def F_X12_readTower : ea_F := (ea_rm 15 0 0, cX12_readTower, RX12, some .boolean, 3, [], 0, 0)
def D_X12_readTower : List (Nat × Instr × Nat) := [(0, .aload_n 0, 1), (1, .iconst 0, 1), (2, .bipush 15, 2), (4, .invokevirtual 124, 3), (7, .istore_n 1, 1), (8, .iload_n 1, 1), (9, .ifCond .ge 7, 3), (12, .iconst (-1), 1), (13, .goto 12, 3), (16, .aload_n 0, 1), (17, .ldc 148, 2), (19, .iconst 1, 1), (20, .bipush 12, 2), (22, .invokevirtual 134, 3), (25, .istore_n 2, 1), (26, .iload_n 2, 1), (27, .ifCond .ge 5, 3), (30, .iconst 0, 1), (31, .ireturn, 1), (32, .aload_n 0, 1), (33, .getfield 13, 3), (36, .bipush 7, 2), (38, .iload_n 1, 1), (39, .iastore, 1), (40, .aload_n 0, 1), (41, .getfield 13, 3), (44, .bipush 8, 2), (46, .iload_n 2, 1), (47, .iastore, 1), (48, .iconst 1, 1), (49, .ireturn, 1)]
theorem dt_X12_readTower : ∀ q ∈ D_X12_readTower, decode cX12_readTower q.1 = .ok q.2 := by decide +kernel
theorem mv_X12_readTower : ea_MV yX12_readTower (F_X12_readTower) 0 := ⟨⟨List.mem_append_right _ (List.mem_of_getElem? (i := 13) (by decide +kernel)), List.mem_append_right _ (List.mem_of_getElem? (i := 1619) (by decide +kernel)), ⟨by decide, by decide⟩, by decide +kernel⟩, List.mem_append_right _ (List.mem_of_getElem? (i := 1618) (by decide +kernel)), List.mem_append_left _ (List.mem_of_getElem? (i := 59) (by decide +kernel))⟩
def f_X12_readTower_j25 (x5 : Int32) (x6 : Int32) (m7 : ea_M) : Option (Int32 × ea_M) :=
  if 0 ≤ x6 then
  ea_bd (ea_st m7 273 7 x5) fun m8 =>
  ea_bd (ea_st m8 273 8 x6) fun m9 =>
  some (1, m9)
  else
  some (0, m7)
def f_X12_readTower (m : ea_M) : Option (Int32 × ea_M) :=
  ea_cl (f_X12_number 0 15 m) fun r2 m1 =>
  if 0 ≤ r2 then
  ea_cl (f_X12_after 55 1 12 m1) fun r4 m3 =>
  f_X12_readTower_j25 r2 r4 m3
  else
  f_X12_readTower_j25 r2 (-1) m1
set_option maxHeartbeats 300000 in
theorem jn_X12_readTower_25 (G : ea_G) {res : ea_O}  (x5 : Int32) (x6 : Int32) (m7 : ea_M)  {Φ : (Int32 × ea_M) → Prop} (hR : ∀ t : Int32 × ea_M, Φ t → res = (0, t)) : ea_E G F_X12_readTower res 25 [some (.ref 272), some (.int x5), none] [.int x6] m7 0 0 (f_X12_readTower_j25 x5 x6 m7) Φ := by
  unfold f_X12_readTower_j25
  refine ev_istore_n (ls' := [some (.ref 272), some (.int x5), some (.int x6)]) (ea_at dt_X12_readTower 14 rfl) (ea_lt rfl) rfl ?_
  refine ev_iload_n (ea_at dt_X12_readTower 15 rfl) rfl ?_
  refine ev_if_ge (tgt := 32) (ea_at dt_X12_readTower 16 rfl) rfl (fun _ => ?_) (fun _ => ?_)
  · refine ev_aload_n (ea_at dt_X12_readTower 19 rfl) rfl ?_
    refine ev_getR (ea_at dt_X12_readTower 20 rfl) fl_X12_13 sh_272 rfl ?_
    refine ev_bipush (ea_at dt_X12_readTower 21 rfl) bp_7 ?_
    refine ev_iload_n (ea_at dt_X12_readTower 22 rfl) rfl ?_
    refine ev_iastoreC (j := 7) (ea_at dt_X12_readTower 23 rfl) sh_273 (by decide) (by decide) (by decide) (by decide) ?_
    refine ev_m (fun m8 => ?_)
    refine ev_aload_n (ea_at dt_X12_readTower 24 rfl) rfl ?_
    refine ev_getR (ea_at dt_X12_readTower 25 rfl) fl_X12_13 sh_272 rfl ?_
    refine ev_bipush (ea_at dt_X12_readTower 26 rfl) bp_8 ?_
    refine ev_iload_n (ea_at dt_X12_readTower 27 rfl) rfl ?_
    refine ev_iastoreC (j := 8) (ea_at dt_X12_readTower 28 rfl) sh_273 (by decide) (by decide) (by decide) (by decide) ?_
    refine ev_m (fun m9 => ?_)
    refine ev_iconst (ea_at dt_X12_readTower 29 rfl) ic_1 ?_
    exact ev_zret (by decide) (ea_at dt_X12_readTower 30 rfl) rfl ⟨by decide, by decide⟩ (fun h => hR _ h)
  · refine ev_iconst (ea_at dt_X12_readTower 17 rfl) ic_0 ?_
    exact ev_zret (by decide) (ea_at dt_X12_readTower 18 rfl) rfl ⟨by decide, by decide⟩ (fun h => hR _ h)
set_option maxHeartbeats 300000 in
theorem ok_X12_readTower (G : ea_G) (m : ea_M)  (rZ : Int32) (mZ : ea_M) (hZ : f_X12_readTower m = some (rZ, mZ)) : ea_Met G yX12_readTower F_X12_readTower [.ref 272] m (0, rZ, mZ) := by
  refine ea_met (F := F_X12_readTower) (by decide +kernel) rfl rfl (Nat.le_of_ble_eq_true rfl) (by simp only [List.mem_cons, List.not_mem_nil, or_false]; intro v hv; rcases hv with rfl <;> rfl) ((?_ : ea_E G F_X12_readTower (0, rZ, mZ) 0 [some (.ref 272), none, none] [] m 0 0 (f_X12_readTower m) (fun t => t = (rZ, mZ))) (rZ, mZ) hZ rfl)
  have hR : ∀ t : Int32 × ea_M, t = (rZ, mZ) → ((0, rZ, mZ) : ea_O) = (0, t) := fun t h => by rw [h]
  unfold f_X12_readTower
  refine ev_aload_n (ea_at dt_X12_readTower 0 rfl) rfl ?_
  refine ev_iconst (ea_at dt_X12_readTower 1 rfl) ic_0 ?_
  refine ev_bipush (ea_at dt_X12_readTower 2 rfl) bp_15 ?_
  refine ev_clI (F1 := F_X12_number) (fun rY mY hY => ea_runV (As := [.int 0, .int 15]) (ea_at dt_X12_readTower 3 rfl) ml_X12_124 mv_X12_number (ok_X12_number G 0 15 m  rY mY hY) sh_272 rfl rfl rfl (Nat.le_of_ble_eq_true rfl) rfl) rfl (fun r2 m1 => ?_)
  refine ev_istore_n (ls' := [some (.ref 272), some (.int r2), none]) (ea_at dt_X12_readTower 4 rfl) (ea_lt rfl) rfl ?_
  refine ev_iload_n (ea_at dt_X12_readTower 5 rfl) rfl ?_
  refine ev_if_ge (tgt := 16) (ea_at dt_X12_readTower 6 rfl) rfl (fun _ => ?_) (fun _ => ?_)
  · refine ev_aload_n (ea_at dt_X12_readTower 9 rfl) rfl ?_
    refine ev_ldcS (j := 55) (ea_at dt_X12_readTower 10 rfl) rfl ?_
    refine ev_iconst (ea_at dt_X12_readTower 11 rfl) ic_1 ?_
    refine ev_bipush (ea_at dt_X12_readTower 12 rfl) bp_12 ?_
    refine ev_clI (F1 := F_X12_after) (fun rY mY hY => ea_runV (As := [.ref (1000 + 55), .int 1, .int 12]) (ea_at dt_X12_readTower 13 rfl) ml_X12_134 mv_X12_after (ok_X12_after G 55 1 12 m1 (by decide) rY mY hY) sh_272 rfl rfl rfl (Nat.le_of_ble_eq_true rfl) rfl) rfl (fun r4 m3 => ?_)
    exact ev_drop (l' := [some (.ref 272), some (.int r2), none]) ⟨Or.inr rfl, Or.inr rfl, Or.inl rfl, trivial⟩ (jn_X12_readTower_25 G r2 r4 m3  hR)
  · refine ev_iconst (ea_at dt_X12_readTower 7 rfl) ic_m1 ?_
    refine ev_goto (tgt := 25) (ea_at dt_X12_readTower 8 rfl) rfl ?_
    exact ev_drop (l' := [some (.ref 272), some (.int r2), none]) ⟨Or.inr rfl, Or.inr rfl, Or.inl rfl, trivial⟩ (jn_X12_readTower_25 G r2 (-1) m1  hR)
def F_X12_readYard : ea_F := (ea_rm 15 0 0, cX12_readYard, RX12, some .boolean, 3, [], 0, 0)
def D_X12_readYard : List (Nat × Instr × Nat) := [(0, .aload_n 0, 1), (1, .iconst 0, 1), (2, .bipush 15, 2), (4, .invokevirtual 124, 3), (7, .istore_n 1, 1), (8, .iload_n 1, 1), (9, .ifCond .ge 7, 3), (12, .iconst (-1), 1), (13, .goto 12, 3), (16, .aload_n 0, 1), (17, .ldc 150, 2), (19, .iload_n 1, 1), (20, .bipush 15, 2), (22, .invokevirtual 134, 3), (25, .istore_n 2, 1), (26, .iload_n 2, 1), (27, .ifCond .ge 5, 3), (30, .iconst 0, 1), (31, .ireturn, 1), (32, .aload_n 0, 1), (33, .getfield 13, 3), (36, .bipush 9, 2), (38, .iload_n 1, 1), (39, .iastore, 1), (40, .aload_n 0, 1), (41, .getfield 13, 3), (44, .bipush 10, 2), (46, .iload_n 2, 1), (47, .iastore, 1), (48, .iconst 1, 1), (49, .ireturn, 1)]
theorem dt_X12_readYard : ∀ q ∈ D_X12_readYard, decode cX12_readYard q.1 = .ok q.2 := by decide +kernel
theorem mv_X12_readYard : ea_MV yX12_readYard (F_X12_readYard) 0 := ⟨⟨List.mem_append_right _ (List.mem_of_getElem? (i := 13) (by decide +kernel)), List.mem_append_right _ (List.mem_of_getElem? (i := 1625) (by decide +kernel)), ⟨by decide, by decide⟩, by decide +kernel⟩, List.mem_append_right _ (List.mem_of_getElem? (i := 1624) (by decide +kernel)), List.mem_append_left _ (List.mem_of_getElem? (i := 60) (by decide +kernel))⟩
def f_X12_readYard_j25 (x5 : Int32) (x6 : Int32) (m7 : ea_M) : Option (Int32 × ea_M) :=
  if 0 ≤ x6 then
  ea_bd (ea_st m7 273 9 x5) fun m8 =>
  ea_bd (ea_st m8 273 10 x6) fun m9 =>
  some (1, m9)
  else
  some (0, m7)
def f_X12_readYard (m : ea_M) : Option (Int32 × ea_M) :=
  ea_cl (f_X12_number 0 15 m) fun r2 m1 =>
  if 0 ≤ r2 then
  ea_cl (f_X12_after 57 r2 15 m1) fun r4 m3 =>
  f_X12_readYard_j25 r2 r4 m3
  else
  f_X12_readYard_j25 r2 (-1) m1
set_option maxHeartbeats 300000 in
theorem jn_X12_readYard_25 (G : ea_G) {res : ea_O}  (x5 : Int32) (x6 : Int32) (m7 : ea_M)  {Φ : (Int32 × ea_M) → Prop} (hR : ∀ t : Int32 × ea_M, Φ t → res = (0, t)) : ea_E G F_X12_readYard res 25 [some (.ref 272), some (.int x5), none] [.int x6] m7 0 0 (f_X12_readYard_j25 x5 x6 m7) Φ := by
  unfold f_X12_readYard_j25
  refine ev_istore_n (ls' := [some (.ref 272), some (.int x5), some (.int x6)]) (ea_at dt_X12_readYard 14 rfl) (ea_lt rfl) rfl ?_
  refine ev_iload_n (ea_at dt_X12_readYard 15 rfl) rfl ?_
  refine ev_if_ge (tgt := 32) (ea_at dt_X12_readYard 16 rfl) rfl (fun _ => ?_) (fun _ => ?_)
  · refine ev_aload_n (ea_at dt_X12_readYard 19 rfl) rfl ?_
    refine ev_getR (ea_at dt_X12_readYard 20 rfl) fl_X12_13 sh_272 rfl ?_
    refine ev_bipush (ea_at dt_X12_readYard 21 rfl) bp_9 ?_
    refine ev_iload_n (ea_at dt_X12_readYard 22 rfl) rfl ?_
    refine ev_iastoreC (j := 9) (ea_at dt_X12_readYard 23 rfl) sh_273 (by decide) (by decide) (by decide) (by decide) ?_
    refine ev_m (fun m8 => ?_)
    refine ev_aload_n (ea_at dt_X12_readYard 24 rfl) rfl ?_
    refine ev_getR (ea_at dt_X12_readYard 25 rfl) fl_X12_13 sh_272 rfl ?_
    refine ev_bipush (ea_at dt_X12_readYard 26 rfl) bp_10 ?_
    refine ev_iload_n (ea_at dt_X12_readYard 27 rfl) rfl ?_
    refine ev_iastoreC (j := 10) (ea_at dt_X12_readYard 28 rfl) sh_273 (by decide) (by decide) (by decide) (by decide) ?_
    refine ev_m (fun m9 => ?_)
    refine ev_iconst (ea_at dt_X12_readYard 29 rfl) ic_1 ?_
    exact ev_zret (by decide) (ea_at dt_X12_readYard 30 rfl) rfl ⟨by decide, by decide⟩ (fun h => hR _ h)
  · refine ev_iconst (ea_at dt_X12_readYard 17 rfl) ic_0 ?_
    exact ev_zret (by decide) (ea_at dt_X12_readYard 18 rfl) rfl ⟨by decide, by decide⟩ (fun h => hR _ h)
set_option maxHeartbeats 300000 in
theorem ok_X12_readYard (G : ea_G) (m : ea_M)  (rZ : Int32) (mZ : ea_M) (hZ : f_X12_readYard m = some (rZ, mZ)) : ea_Met G yX12_readYard F_X12_readYard [.ref 272] m (0, rZ, mZ) := by
  refine ea_met (F := F_X12_readYard) (by decide +kernel) rfl rfl (Nat.le_of_ble_eq_true rfl) (by simp only [List.mem_cons, List.not_mem_nil, or_false]; intro v hv; rcases hv with rfl <;> rfl) ((?_ : ea_E G F_X12_readYard (0, rZ, mZ) 0 [some (.ref 272), none, none] [] m 0 0 (f_X12_readYard m) (fun t => t = (rZ, mZ))) (rZ, mZ) hZ rfl)
  have hR : ∀ t : Int32 × ea_M, t = (rZ, mZ) → ((0, rZ, mZ) : ea_O) = (0, t) := fun t h => by rw [h]
  unfold f_X12_readYard
  refine ev_aload_n (ea_at dt_X12_readYard 0 rfl) rfl ?_
  refine ev_iconst (ea_at dt_X12_readYard 1 rfl) ic_0 ?_
  refine ev_bipush (ea_at dt_X12_readYard 2 rfl) bp_15 ?_
  refine ev_clI (F1 := F_X12_number) (fun rY mY hY => ea_runV (As := [.int 0, .int 15]) (ea_at dt_X12_readYard 3 rfl) ml_X12_124 mv_X12_number (ok_X12_number G 0 15 m  rY mY hY) sh_272 rfl rfl rfl (Nat.le_of_ble_eq_true rfl) rfl) rfl (fun r2 m1 => ?_)
  refine ev_istore_n (ls' := [some (.ref 272), some (.int r2), none]) (ea_at dt_X12_readYard 4 rfl) (ea_lt rfl) rfl ?_
  refine ev_iload_n (ea_at dt_X12_readYard 5 rfl) rfl ?_
  refine ev_if_ge (tgt := 16) (ea_at dt_X12_readYard 6 rfl) rfl (fun _ => ?_) (fun _ => ?_)
  · refine ev_aload_n (ea_at dt_X12_readYard 9 rfl) rfl ?_
    refine ev_ldcS (j := 57) (ea_at dt_X12_readYard 10 rfl) rfl ?_
    refine ev_iload_n (ea_at dt_X12_readYard 11 rfl) rfl ?_
    refine ev_bipush (ea_at dt_X12_readYard 12 rfl) bp_15 ?_
    refine ev_clI (F1 := F_X12_after) (fun rY mY hY => ea_runV (As := [.ref (1000 + 57), .int r2, .int 15]) (ea_at dt_X12_readYard 13 rfl) ml_X12_134 mv_X12_after (ok_X12_after G 57 r2 15 m1 (by decide) rY mY hY) sh_272 rfl rfl rfl (Nat.le_of_ble_eq_true rfl) rfl) rfl (fun r4 m3 => ?_)
    exact ev_drop (l' := [some (.ref 272), some (.int r2), none]) ⟨Or.inr rfl, Or.inr rfl, Or.inl rfl, trivial⟩ (jn_X12_readYard_25 G r2 r4 m3  hR)
  · refine ev_iconst (ea_at dt_X12_readYard 7 rfl) ic_m1 ?_
    refine ev_goto (tgt := 25) (ea_at dt_X12_readYard 8 rfl) rfl ?_
    exact ev_drop (l' := [some (.ref 272), some (.int r2), none]) ⟨Or.inr rfl, Or.inr rfl, Or.inl rfl, trivial⟩ (jn_X12_readYard_25 G r2 (-1) m1  hR)
def F_X12_readWind : ea_F := (ea_rm 14 0 0, cX12_readWind, RX12, some .boolean, 4, [], 0, 0)
def D_X12_readWind : List (Nat × Instr × Nat) := [(0, .aload_n 0, 1), (1, .iconst 0, 1), (2, .bipush 12, 2), (4, .invokevirtual 124, 3), (7, .istore_n 1, 1), (8, .iload_n 1, 1), (9, .ifCond .ge 5, 3), (12, .iconst 0, 1), (13, .ireturn, 1), (14, .aload_n 0, 1), (15, .invokevirtual 117, 3), (18, .aload_n 0, 1), (19, .ldc 152, 2), (21, .invokevirtual 120, 3), (24, .istore_n 2, 1), (25, .iload_n 2, 1), (26, .ifCond .ne 12, 3), (29, .aload_n 0, 1), (30, .ldc 154, 2), (32, .invokevirtual 120, 3), (35, .ifCond .eq 12, 3), (38, .aload_n 0, 1), (39, .iconst 0, 1), (40, .iconst 3, 1), (41, .invokevirtual 124, 3), (44, .goto 4, 3), (47, .iconst (-1), 1), (48, .istore_n 3, 1), (49, .iload_n 3, 1), (50, .ifCond .ge 5, 3), (53, .iconst 0, 1), (54, .ireturn, 1), (55, .aload_n 0, 1), (56, .getfield 13, 3), (59, .bipush 13, 2), (61, .iload_n 1, 1), (62, .iadd, 1), (63, .iload_n 2, 1), (64, .ifCond .eq 8, 3), (67, .iload_n 3, 1), (68, .ineg, 1), (69, .goto 4, 3), (72, .iload_n 3, 1), (73, .iastore, 1), (74, .iconst 1, 1), (75, .ireturn, 1)]
theorem dt_X12_readWind : ∀ q ∈ D_X12_readWind, decode cX12_readWind q.1 = .ok q.2 := by decide +kernel
theorem mv_X12_readWind : ea_MV yX12_readWind (F_X12_readWind) 0 := ⟨⟨List.mem_append_right _ (List.mem_of_getElem? (i := 13) (by decide +kernel)), List.mem_append_right _ (List.mem_of_getElem? (i := 1631) (by decide +kernel)), ⟨by decide, by decide⟩, by decide +kernel⟩, List.mem_append_right _ (List.mem_of_getElem? (i := 1630) (by decide +kernel)), List.mem_append_left _ (List.mem_of_getElem? (i := 61) (by decide +kernel))⟩
def f_X12_readWind_j73 (x13 : Int32) (x14 : Int32) (m15 : ea_M) : Option (Int32 × ea_M) :=
  ea_g x13 2180 (ea_bd (ea_st m15 273 (Int32.toNatClampNeg x13) x14) fun m16 =>
  some (1, m16))
def f_X12_readWind_j48 (x9 : Int32) (x10 : Int32) (x11 : Int32) (m12 : ea_M) : Option (Int32 × ea_M) :=
  if 0 ≤ x11 then
  if x10 = 0 then
  f_X12_readWind_j73 (13 + x9) x11 m12
  else
  f_X12_readWind_j73 (13 + x9) (-x11) m12
  else
  some (0, m12)
def f_X12_readWind_j38 (x17 : Int32) (x18 : Int32) (m19 : ea_M) : Option (Int32 × ea_M) :=
  ea_cl (f_X12_number 0 3 m19) fun r21 m20 =>
  f_X12_readWind_j48 x17 x18 r21 m20
def f_X12_readWind (m : ea_M) : Option (Int32 × ea_M) :=
  ea_cl (f_X12_number 0 12 m) fun r2 m1 =>
  if 0 ≤ r2 then
  ea_cl (f_X12_letters m1) fun r4 m3 =>
  ea_cl (f_X12_isWord 59 m3) fun r6 m5 =>
  if r6 = 0 then
  ea_cl (f_X12_isWord 60 m5) fun r8 m7 =>
  if r8 = 0 then
  f_X12_readWind_j48 r2 r6 (-1) m7
  else
  f_X12_readWind_j38 r2 r6 m7
  else
  f_X12_readWind_j38 r2 r6 m5
  else
  some (0, m1)
set_option maxHeartbeats 300000 in
theorem jn_X12_readWind_73 (G : ea_G) {res : ea_O}  (x13 : Int32) (x14 : Int32) (m15 : ea_M)  {Φ : (Int32 × ea_M) → Prop} (hR : ∀ t : Int32 × ea_M, Φ t → res = (0, t)) : ea_E G F_X12_readWind res 73 [none, none, none, none] [.int x14, .int x13, .ref 273] m15 0 0 (f_X12_readWind_j73 x13 x14 m15) Φ := by
  unfold f_X12_readWind_j73
  refine ev_iastore (ea_at dt_X12_readWind 43 rfl) sh_273 (by decide) ?_
  refine ev_m (fun m16 => ?_)
  refine ev_iconst (ea_at dt_X12_readWind 44 rfl) ic_1 ?_
  exact ev_zret (by decide) (ea_at dt_X12_readWind 45 rfl) rfl ⟨by decide, by decide⟩ (fun h => hR _ h)
set_option maxHeartbeats 300000 in
theorem jn_X12_readWind_48 (G : ea_G) {res : ea_O}  (x9 : Int32) (x10 : Int32) (x11 : Int32) (m12 : ea_M)  {Φ : (Int32 × ea_M) → Prop} (hR : ∀ t : Int32 × ea_M, Φ t → res = (0, t)) : ea_E G F_X12_readWind res 48 [some (.ref 272), some (.int x9), some (.int x10), none] [.int x11] m12 0 0 (f_X12_readWind_j48 x9 x10 x11 m12) Φ := by
  unfold f_X12_readWind_j48
  refine ev_istore_n (ls' := [some (.ref 272), some (.int x9), some (.int x10), some (.int x11)]) (ea_at dt_X12_readWind 27 rfl) (ea_lt rfl) rfl ?_
  refine ev_iload_n (ea_at dt_X12_readWind 28 rfl) rfl ?_
  refine ev_if_ge (tgt := 55) (ea_at dt_X12_readWind 29 rfl) rfl (fun _ => ?_) (fun _ => ?_)
  · refine ev_aload_n (ea_at dt_X12_readWind 32 rfl) rfl ?_
    refine ev_getR (ea_at dt_X12_readWind 33 rfl) fl_X12_13 sh_272 rfl ?_
    refine ev_bipush (ea_at dt_X12_readWind 34 rfl) bp_13 ?_
    refine ev_iload_n (ea_at dt_X12_readWind 35 rfl) rfl ?_
    refine ev_iadd (ea_at dt_X12_readWind 36 rfl) ?_
    refine ev_iload_n (ea_at dt_X12_readWind 37 rfl) rfl ?_
    refine ev_if_eq (tgt := 72) (ea_at dt_X12_readWind 38 rfl) rfl (fun _ => ?_) (fun _ => ?_)
    · refine ev_iload_n (ea_at dt_X12_readWind 42 rfl) rfl ?_
      exact ev_drop (l' := [none, none, none, none]) ⟨Or.inl rfl, Or.inl rfl, Or.inl rfl, Or.inl rfl, trivial⟩ (jn_X12_readWind_73 G (13 + x9) x11 m12  hR)
    · refine ev_iload_n (ea_at dt_X12_readWind 39 rfl) rfl ?_
      refine ev_ineg (ea_at dt_X12_readWind 40 rfl) ?_
      refine ev_goto (tgt := 73) (ea_at dt_X12_readWind 41 rfl) rfl ?_
      exact ev_drop (l' := [none, none, none, none]) ⟨Or.inl rfl, Or.inl rfl, Or.inl rfl, Or.inl rfl, trivial⟩ (jn_X12_readWind_73 G (13 + x9) (-x11) m12  hR)
  · refine ev_iconst (ea_at dt_X12_readWind 30 rfl) ic_0 ?_
    exact ev_zret (by decide) (ea_at dt_X12_readWind 31 rfl) rfl ⟨by decide, by decide⟩ (fun h => hR _ h)
set_option maxHeartbeats 300000 in
theorem jn_X12_readWind_38 (G : ea_G) {res : ea_O}  (x17 : Int32) (x18 : Int32) (m19 : ea_M)  {Φ : (Int32 × ea_M) → Prop} (hR : ∀ t : Int32 × ea_M, Φ t → res = (0, t)) : ea_E G F_X12_readWind res 38 [some (.ref 272), some (.int x17), some (.int x18), none] [] m19 0 0 (f_X12_readWind_j38 x17 x18 m19) Φ := by
  unfold f_X12_readWind_j38
  refine ev_aload_n (ea_at dt_X12_readWind 21 rfl) rfl ?_
  refine ev_iconst (ea_at dt_X12_readWind 22 rfl) ic_0 ?_
  refine ev_iconst (ea_at dt_X12_readWind 23 rfl) ic_3 ?_
  refine ev_clI (F1 := F_X12_number) (fun rY mY hY => ea_runV (As := [.int 0, .int 3]) (ea_at dt_X12_readWind 24 rfl) ml_X12_124 mv_X12_number (ok_X12_number G 0 3 m19  rY mY hY) sh_272 rfl rfl rfl (Nat.le_of_ble_eq_true rfl) rfl) rfl (fun r21 m20 => ?_)
  refine ev_goto (tgt := 48) (ea_at dt_X12_readWind 25 rfl) rfl ?_
  exact ev_drop (l' := [some (.ref 272), some (.int x17), some (.int x18), none]) ⟨Or.inr rfl, Or.inr rfl, Or.inr rfl, Or.inl rfl, trivial⟩ (jn_X12_readWind_48 G x17 x18 r21 m20  hR)
set_option maxHeartbeats 300000 in
theorem ok_X12_readWind (G : ea_G) (m : ea_M)  (rZ : Int32) (mZ : ea_M) (hZ : f_X12_readWind m = some (rZ, mZ)) : ea_Met G yX12_readWind F_X12_readWind [.ref 272] m (0, rZ, mZ) := by
  refine ea_met (F := F_X12_readWind) (by decide +kernel) rfl rfl (Nat.le_of_ble_eq_true rfl) (by simp only [List.mem_cons, List.not_mem_nil, or_false]; intro v hv; rcases hv with rfl <;> rfl) ((?_ : ea_E G F_X12_readWind (0, rZ, mZ) 0 [some (.ref 272), none, none, none] [] m 0 0 (f_X12_readWind m) (fun t => t = (rZ, mZ))) (rZ, mZ) hZ rfl)
  have hR : ∀ t : Int32 × ea_M, t = (rZ, mZ) → ((0, rZ, mZ) : ea_O) = (0, t) := fun t h => by rw [h]
  unfold f_X12_readWind
  refine ev_aload_n (ea_at dt_X12_readWind 0 rfl) rfl ?_
  refine ev_iconst (ea_at dt_X12_readWind 1 rfl) ic_0 ?_
  refine ev_bipush (ea_at dt_X12_readWind 2 rfl) bp_12 ?_
  refine ev_clI (F1 := F_X12_number) (fun rY mY hY => ea_runV (As := [.int 0, .int 12]) (ea_at dt_X12_readWind 3 rfl) ml_X12_124 mv_X12_number (ok_X12_number G 0 12 m  rY mY hY) sh_272 rfl rfl rfl (Nat.le_of_ble_eq_true rfl) rfl) rfl (fun r2 m1 => ?_)
  refine ev_istore_n (ls' := [some (.ref 272), some (.int r2), none, none]) (ea_at dt_X12_readWind 4 rfl) (ea_lt rfl) rfl ?_
  refine ev_iload_n (ea_at dt_X12_readWind 5 rfl) rfl ?_
  refine ev_if_ge (tgt := 14) (ea_at dt_X12_readWind 6 rfl) rfl (fun _ => ?_) (fun _ => ?_)
  · refine ev_aload_n (ea_at dt_X12_readWind 9 rfl) rfl ?_
    refine ev_clU (F1 := F_X12_letters) (fun rY mY hY => ea_runV (As := []) (ea_at dt_X12_readWind 10 rfl) ml_X12_117 mv_X12_letters (ok_X12_letters G m1  rY mY hY) sh_272 rfl rfl rfl (Nat.le_of_ble_eq_true rfl) rfl) rfl (fun r4 m3 => ?_)
    refine ev_aload_n (ea_at dt_X12_readWind 11 rfl) rfl ?_
    refine ev_ldcS (j := 59) (ea_at dt_X12_readWind 12 rfl) rfl ?_
    refine ev_clI (F1 := F_X12_isWord) (fun rY mY hY => ea_runV (As := [.ref (1000 + 59)]) (ea_at dt_X12_readWind 13 rfl) ml_X12_120 mv_X12_isWord (ok_X12_isWord G 59 m3 (by decide) rY mY hY) sh_272 rfl rfl rfl (Nat.le_of_ble_eq_true rfl) rfl) rfl (fun r6 m5 => ?_)
    refine ev_istore_n (ls' := [some (.ref 272), some (.int r2), some (.int r6), none]) (ea_at dt_X12_readWind 14 rfl) (ea_lt rfl) rfl ?_
    refine ev_iload_n (ea_at dt_X12_readWind 15 rfl) rfl ?_
    refine ev_if_ne (tgt := 38) (ea_at dt_X12_readWind 16 rfl) rfl (fun _ => ?_) (fun _ => ?_)
    · refine ev_aload_n (ea_at dt_X12_readWind 17 rfl) rfl ?_
      refine ev_ldcS (j := 60) (ea_at dt_X12_readWind 18 rfl) rfl ?_
      refine ev_clI (F1 := F_X12_isWord) (fun rY mY hY => ea_runV (As := [.ref (1000 + 60)]) (ea_at dt_X12_readWind 19 rfl) ml_X12_120 mv_X12_isWord (ok_X12_isWord G 60 m5 (by decide) rY mY hY) sh_272 rfl rfl rfl (Nat.le_of_ble_eq_true rfl) rfl) rfl (fun r8 m7 => ?_)
      refine ev_if_eq (tgt := 47) (ea_at dt_X12_readWind 20 rfl) rfl (fun _ => ?_) (fun _ => ?_)
      · refine ev_iconst (ea_at dt_X12_readWind 26 rfl) ic_m1 ?_
        exact ev_drop (l' := [some (.ref 272), some (.int r2), some (.int r6), none]) ⟨Or.inr rfl, Or.inr rfl, Or.inr rfl, Or.inl rfl, trivial⟩ (jn_X12_readWind_48 G r2 r6 (-1) m7  hR)
      · exact ev_drop (l' := [some (.ref 272), some (.int r2), some (.int r6), none]) ⟨Or.inr rfl, Or.inr rfl, Or.inr rfl, Or.inl rfl, trivial⟩ (jn_X12_readWind_38 G r2 r6 m7  hR)
    · exact ev_drop (l' := [some (.ref 272), some (.int r2), some (.int r6), none]) ⟨Or.inr rfl, Or.inr rfl, Or.inr rfl, Or.inl rfl, trivial⟩ (jn_X12_readWind_38 G r2 r6 m5  hR)
  · refine ev_iconst (ea_at dt_X12_readWind 7 rfl) ic_0 ?_
    exact ev_zret (by decide) (ea_at dt_X12_readWind 8 rfl) rfl ⟨by decide, by decide⟩ (fun h => hR _ h)
def F_X12_readHour : ea_F := (ea_rm 11 0 0, cX12_readHour, RX12, some .boolean, 2, [], 0, 0)
def D_X12_readHour : List (Nat × Instr × Nat) := [(0, .aload_n 0, 1), (1, .iconst 0, 1), (2, .bipush 23, 2), (4, .invokevirtual 124, 3), (7, .istore_n 1, 1), (8, .iload_n 1, 1), (9, .ifCond .lt 11, 3), (12, .aload_n 0, 1), (13, .getfield 13, 3), (16, .bipush 6, 2), (18, .iload_n 1, 1), (19, .iastore, 1), (20, .iload_n 1, 1), (21, .ifCond .lt 7, 3), (24, .iconst 1, 1), (25, .goto 4, 3), (28, .iconst 0, 1), (29, .ireturn, 1)]
theorem dt_X12_readHour : ∀ q ∈ D_X12_readHour, decode cX12_readHour q.1 = .ok q.2 := by decide +kernel
theorem mv_X12_readHour : ea_MV yX12_readHour (F_X12_readHour) 0 := ⟨⟨List.mem_append_right _ (List.mem_of_getElem? (i := 13) (by decide +kernel)), List.mem_append_right _ (List.mem_of_getElem? (i := 1638) (by decide +kernel)), ⟨by decide, by decide⟩, by decide +kernel⟩, List.mem_append_right _ (List.mem_of_getElem? (i := 1637) (by decide +kernel)), List.mem_append_left _ (List.mem_of_getElem? (i := 62) (by decide +kernel))⟩
def f_X12_readHour_j20 (x3 : Int32) (m4 : ea_M) : Option (Int32 × ea_M) :=
  if x3 < 0 then
  some (0, m4)
  else
  some (1, m4)
def f_X12_readHour (m : ea_M) : Option (Int32 × ea_M) :=
  ea_cl (f_X12_number 0 23 m) fun r2 m1 =>
  if r2 < 0 then
  f_X12_readHour_j20 r2 m1
  else
  ea_bd (ea_st m1 273 6 r2) fun m5 =>
  f_X12_readHour_j20 r2 m5
set_option maxHeartbeats 300000 in
theorem jn_X12_readHour_20 (G : ea_G) {res : ea_O}  (x3 : Int32) (m4 : ea_M)  {Φ : (Int32 × ea_M) → Prop} (hR : ∀ t : Int32 × ea_M, Φ t → res = (0, t)) : ea_E G F_X12_readHour res 20 [none, some (.int x3)] [] m4 0 0 (f_X12_readHour_j20 x3 m4) Φ := by
  unfold f_X12_readHour_j20
  refine ev_iload_n (ea_at dt_X12_readHour 12 rfl) rfl ?_
  refine ev_if_lt (tgt := 28) (ea_at dt_X12_readHour 13 rfl) rfl (fun _ => ?_) (fun _ => ?_)
  · refine ev_iconst (ea_at dt_X12_readHour 16 rfl) ic_0 ?_
    exact ev_zret (by decide) (ea_at dt_X12_readHour 17 rfl) rfl ⟨by decide, by decide⟩ (fun h => hR _ h)
  · refine ev_iconst (ea_at dt_X12_readHour 14 rfl) ic_1 ?_
    refine ev_goto (tgt := 29) (ea_at dt_X12_readHour 15 rfl) rfl ?_
    exact ev_zret (by decide) (ea_at dt_X12_readHour 17 rfl) rfl ⟨by decide, by decide⟩ (fun h => hR _ h)
set_option maxHeartbeats 300000 in
theorem ok_X12_readHour (G : ea_G) (m : ea_M)  (rZ : Int32) (mZ : ea_M) (hZ : f_X12_readHour m = some (rZ, mZ)) : ea_Met G yX12_readHour F_X12_readHour [.ref 272] m (0, rZ, mZ) := by
  refine ea_met (F := F_X12_readHour) (by decide +kernel) rfl rfl (Nat.le_of_ble_eq_true rfl) (by simp only [List.mem_cons, List.not_mem_nil, or_false]; intro v hv; rcases hv with rfl <;> rfl) ((?_ : ea_E G F_X12_readHour (0, rZ, mZ) 0 [some (.ref 272), none] [] m 0 0 (f_X12_readHour m) (fun t => t = (rZ, mZ))) (rZ, mZ) hZ rfl)
  have hR : ∀ t : Int32 × ea_M, t = (rZ, mZ) → ((0, rZ, mZ) : ea_O) = (0, t) := fun t h => by rw [h]
  unfold f_X12_readHour
  refine ev_aload_n (ea_at dt_X12_readHour 0 rfl) rfl ?_
  refine ev_iconst (ea_at dt_X12_readHour 1 rfl) ic_0 ?_
  refine ev_bipush (ea_at dt_X12_readHour 2 rfl) bp_23 ?_
  refine ev_clI (F1 := F_X12_number) (fun rY mY hY => ea_runV (As := [.int 0, .int 23]) (ea_at dt_X12_readHour 3 rfl) ml_X12_124 mv_X12_number (ok_X12_number G 0 23 m  rY mY hY) sh_272 rfl rfl rfl (Nat.le_of_ble_eq_true rfl) rfl) rfl (fun r2 m1 => ?_)
  refine ev_istore_n (ls' := [some (.ref 272), some (.int r2)]) (ea_at dt_X12_readHour 4 rfl) (ea_lt rfl) rfl ?_
  refine ev_iload_n (ea_at dt_X12_readHour 5 rfl) rfl ?_
  refine ev_if_lt (tgt := 20) (ea_at dt_X12_readHour 6 rfl) rfl (fun _ => ?_) (fun _ => ?_)
  · exact ev_drop (l' := [none, some (.int r2)]) ⟨Or.inl rfl, Or.inr rfl, trivial⟩ (jn_X12_readHour_20 G r2 m1  hR)
  · refine ev_aload_n (ea_at dt_X12_readHour 7 rfl) rfl ?_
    refine ev_getR (ea_at dt_X12_readHour 8 rfl) fl_X12_13 sh_272 rfl ?_
    refine ev_bipush (ea_at dt_X12_readHour 9 rfl) bp_6 ?_
    refine ev_iload_n (ea_at dt_X12_readHour 10 rfl) rfl ?_
    refine ev_iastoreC (j := 6) (ea_at dt_X12_readHour 11 rfl) sh_273 (by decide) (by decide) (by decide) (by decide) ?_
    refine ev_m (fun m5 => ?_)
    exact ev_drop (l' := [none, some (.int r2)]) ⟨Or.inl rfl, Or.inr rfl, trivial⟩ (jn_X12_readHour_20 G r2 m5  hR)
def F_X12_readCourtLine : ea_F := (ea_rm 16 0 0, cX12_readCourtLine, RX12, some .boolean, 1, [], 0, 0)
def D_X12_readCourtLine : List (Nat × Instr × Nat) := [(0, .aload_n 0, 1), (1, .ldc 156, 2), (3, .invokevirtual 120, 3), (6, .ifCond .eq 8, 3), (9, .aload_n 0, 1), (10, .invokevirtual 158, 3), (13, .ireturn, 1), (14, .aload_n 0, 1), (15, .ldc 162, 2), (17, .invokevirtual 120, 3), (20, .ifCond .eq 8, 3), (23, .aload_n 0, 1), (24, .invokevirtual 163, 3), (27, .ireturn, 1), (28, .aload_n 0, 1), (29, .ldc 166, 2), (31, .invokevirtual 120, 3), (34, .ifCond .eq 8, 3), (37, .aload_n 0, 1), (38, .invokevirtual 168, 3), (41, .ireturn, 1), (42, .aload_n 0, 1), (43, .ldc 171, 2), (45, .invokevirtual 120, 3), (48, .ifCond .eq 8, 3), (51, .aload_n 0, 1), (52, .invokevirtual 173, 3), (55, .ireturn, 1), (56, .aload_n 0, 1), (57, .ldc 176, 2), (59, .invokevirtual 120, 3), (62, .ifCond .eq 8, 3), (65, .aload_n 0, 1), (66, .invokevirtual 178, 3), (69, .ireturn, 1), (70, .aload_n 0, 1), (71, .ldc 181, 2), (73, .invokevirtual 120, 3), (76, .ifCond .eq 8, 3), (79, .aload_n 0, 1), (80, .invokevirtual 183, 3), (83, .ireturn, 1), (84, .aload_n 0, 1), (85, .ldc 186, 2), (87, .invokevirtual 120, 3), (90, .ifCond .eq 14, 3), (93, .aload_n 0, 1), (94, .invokevirtual 188, 3), (97, .ifCond .eq 7, 3), (100, .iconst 1, 1), (101, .goto 4, 3), (104, .iconst 0, 1), (105, .ireturn, 1)]
theorem dt_X12_readCourtLine : ∀ q ∈ D_X12_readCourtLine, decode cX12_readCourtLine q.1 = .ok q.2 := by decide +kernel
theorem mv_X12_readCourtLine : ea_MV yX12_readCourtLine (F_X12_readCourtLine) 0 := ⟨⟨List.mem_append_right _ (List.mem_of_getElem? (i := 13) (by decide +kernel)), List.mem_append_right _ (List.mem_of_getElem? (i := 1552) (by decide +kernel)), ⟨by decide, by decide⟩, by decide +kernel⟩, List.mem_append_right _ (List.mem_of_getElem? (i := 1551) (by decide +kernel)), List.mem_append_left _ (List.mem_of_getElem? (i := 48) (by decide +kernel))⟩
def f_X12_readCourtLine (m : ea_M) : Option (Int32 × ea_M) :=
  ea_cl (f_X12_isWord 46 m) fun r2 m1 =>
  if r2 = 0 then
  ea_cl (f_X12_isWord 51 m1) fun r4 m3 =>
  if r4 = 0 then
  ea_cl (f_X12_isWord 52 m3) fun r6 m5 =>
  if r6 = 0 then
  ea_cl (f_X12_isWord 54 m5) fun r8 m7 =>
  if r8 = 0 then
  ea_cl (f_X12_isWord 56 m7) fun r10 m9 =>
  if r10 = 0 then
  ea_cl (f_X12_isWord 58 m9) fun r12 m11 =>
  if r12 = 0 then
  ea_cl (f_X12_isWord 61 m11) fun r14 m13 =>
  if r14 = 0 then
  some (0, m13)
  else
  ea_cl (f_X12_readHour m13) fun r16 m15 =>
  if r16 = 0 then
  some (0, m15)
  else
  some (1, m15)
  else
  ea_cl (f_X12_readWind m11) fun r18 m17 =>
  ea_gz r18 (some (r18, m17))
  else
  ea_cl (f_X12_readYard m9) fun r20 m19 =>
  ea_gz r20 (some (r20, m19))
  else
  ea_cl (f_X12_readTower m7) fun r22 m21 =>
  ea_gz r22 (some (r22, m21))
  else
  ea_cl (f_X12_readCase m5) fun r24 m23 =>
  ea_gz r24 (some (r24, m23))
  else
  ea_cl (f_X12_readCounsel m3) fun r26 m25 =>
  ea_gz r26 (some (r26, m25))
  else
  ea_cl (f_X12_readBird m1) fun r28 m27 =>
  ea_gz r28 (some (r28, m27))
set_option maxHeartbeats 300000 in
theorem ok_X12_readCourtLine (G : ea_G) (m : ea_M)  (rZ : Int32) (mZ : ea_M) (hZ : f_X12_readCourtLine m = some (rZ, mZ)) : ea_Met G yX12_readCourtLine F_X12_readCourtLine [.ref 272] m (0, rZ, mZ) := by
  refine ea_met (F := F_X12_readCourtLine) (by decide +kernel) rfl rfl (Nat.le_of_ble_eq_true rfl) (by simp only [List.mem_cons, List.not_mem_nil, or_false]; intro v hv; rcases hv with rfl <;> rfl) ((?_ : ea_E G F_X12_readCourtLine (0, rZ, mZ) 0 [some (.ref 272)] [] m 0 0 (f_X12_readCourtLine m) (fun t => t = (rZ, mZ))) (rZ, mZ) hZ rfl)
  have hR : ∀ t : Int32 × ea_M, t = (rZ, mZ) → ((0, rZ, mZ) : ea_O) = (0, t) := fun t h => by rw [h]
  unfold f_X12_readCourtLine
  refine ev_aload_n (ea_at dt_X12_readCourtLine 0 rfl) rfl ?_
  refine ev_ldcS (j := 46) (ea_at dt_X12_readCourtLine 1 rfl) rfl ?_
  refine ev_clI (F1 := F_X12_isWord) (fun rY mY hY => ea_runV (As := [.ref (1000 + 46)]) (ea_at dt_X12_readCourtLine 2 rfl) ml_X12_120 mv_X12_isWord (ok_X12_isWord G 46 m (by decide) rY mY hY) sh_272 rfl rfl rfl (Nat.le_of_ble_eq_true rfl) rfl) rfl (fun r2 m1 => ?_)
  refine ev_if_eq (tgt := 14) (ea_at dt_X12_readCourtLine 3 rfl) rfl (fun _ => ?_) (fun _ => ?_)
  · refine ev_aload_n (ea_at dt_X12_readCourtLine 7 rfl) rfl ?_
    refine ev_ldcS (j := 51) (ea_at dt_X12_readCourtLine 8 rfl) rfl ?_
    refine ev_clI (F1 := F_X12_isWord) (fun rY mY hY => ea_runV (As := [.ref (1000 + 51)]) (ea_at dt_X12_readCourtLine 9 rfl) ml_X12_120 mv_X12_isWord (ok_X12_isWord G 51 m1 (by decide) rY mY hY) sh_272 rfl rfl rfl (Nat.le_of_ble_eq_true rfl) rfl) rfl (fun r4 m3 => ?_)
    refine ev_if_eq (tgt := 28) (ea_at dt_X12_readCourtLine 10 rfl) rfl (fun _ => ?_) (fun _ => ?_)
    · refine ev_aload_n (ea_at dt_X12_readCourtLine 14 rfl) rfl ?_
      refine ev_ldcS (j := 52) (ea_at dt_X12_readCourtLine 15 rfl) rfl ?_
      refine ev_clI (F1 := F_X12_isWord) (fun rY mY hY => ea_runV (As := [.ref (1000 + 52)]) (ea_at dt_X12_readCourtLine 16 rfl) ml_X12_120 mv_X12_isWord (ok_X12_isWord G 52 m3 (by decide) rY mY hY) sh_272 rfl rfl rfl (Nat.le_of_ble_eq_true rfl) rfl) rfl (fun r6 m5 => ?_)
      refine ev_if_eq (tgt := 42) (ea_at dt_X12_readCourtLine 17 rfl) rfl (fun _ => ?_) (fun _ => ?_)
      · refine ev_aload_n (ea_at dt_X12_readCourtLine 21 rfl) rfl ?_
        refine ev_ldcS (j := 54) (ea_at dt_X12_readCourtLine 22 rfl) rfl ?_
        refine ev_clI (F1 := F_X12_isWord) (fun rY mY hY => ea_runV (As := [.ref (1000 + 54)]) (ea_at dt_X12_readCourtLine 23 rfl) ml_X12_120 mv_X12_isWord (ok_X12_isWord G 54 m5 (by decide) rY mY hY) sh_272 rfl rfl rfl (Nat.le_of_ble_eq_true rfl) rfl) rfl (fun r8 m7 => ?_)
        refine ev_if_eq (tgt := 56) (ea_at dt_X12_readCourtLine 24 rfl) rfl (fun _ => ?_) (fun _ => ?_)
        · refine ev_aload_n (ea_at dt_X12_readCourtLine 28 rfl) rfl ?_
          refine ev_ldcS (j := 56) (ea_at dt_X12_readCourtLine 29 rfl) rfl ?_
          refine ev_clI (F1 := F_X12_isWord) (fun rY mY hY => ea_runV (As := [.ref (1000 + 56)]) (ea_at dt_X12_readCourtLine 30 rfl) ml_X12_120 mv_X12_isWord (ok_X12_isWord G 56 m7 (by decide) rY mY hY) sh_272 rfl rfl rfl (Nat.le_of_ble_eq_true rfl) rfl) rfl (fun r10 m9 => ?_)
          refine ev_if_eq (tgt := 70) (ea_at dt_X12_readCourtLine 31 rfl) rfl (fun _ => ?_) (fun _ => ?_)
          · refine ev_aload_n (ea_at dt_X12_readCourtLine 35 rfl) rfl ?_
            refine ev_ldcS (j := 58) (ea_at dt_X12_readCourtLine 36 rfl) rfl ?_
            refine ev_clI (F1 := F_X12_isWord) (fun rY mY hY => ea_runV (As := [.ref (1000 + 58)]) (ea_at dt_X12_readCourtLine 37 rfl) ml_X12_120 mv_X12_isWord (ok_X12_isWord G 58 m9 (by decide) rY mY hY) sh_272 rfl rfl rfl (Nat.le_of_ble_eq_true rfl) rfl) rfl (fun r12 m11 => ?_)
            refine ev_if_eq (tgt := 84) (ea_at dt_X12_readCourtLine 38 rfl) rfl (fun _ => ?_) (fun _ => ?_)
            · refine ev_aload_n (ea_at dt_X12_readCourtLine 42 rfl) rfl ?_
              refine ev_ldcS (j := 61) (ea_at dt_X12_readCourtLine 43 rfl) rfl ?_
              refine ev_clI (F1 := F_X12_isWord) (fun rY mY hY => ea_runV (As := [.ref (1000 + 61)]) (ea_at dt_X12_readCourtLine 44 rfl) ml_X12_120 mv_X12_isWord (ok_X12_isWord G 61 m11 (by decide) rY mY hY) sh_272 rfl rfl rfl (Nat.le_of_ble_eq_true rfl) rfl) rfl (fun r14 m13 => ?_)
              refine ev_if_eq (tgt := 104) (ea_at dt_X12_readCourtLine 45 rfl) rfl (fun _ => ?_) (fun _ => ?_)
              · refine ev_iconst (ea_at dt_X12_readCourtLine 51 rfl) ic_0 ?_
                exact ev_zret (by decide) (ea_at dt_X12_readCourtLine 52 rfl) rfl ⟨by decide, by decide⟩ (fun h => hR _ h)
              · refine ev_aload_n (ea_at dt_X12_readCourtLine 46 rfl) rfl ?_
                refine ev_clI (F1 := F_X12_readHour) (fun rY mY hY => ea_runV (As := []) (ea_at dt_X12_readCourtLine 47 rfl) ml_X12_188 mv_X12_readHour (ok_X12_readHour G m13  rY mY hY) sh_272 rfl rfl rfl (Nat.le_of_ble_eq_true rfl) rfl) rfl (fun r16 m15 => ?_)
                refine ev_if_eq (tgt := 104) (ea_at dt_X12_readCourtLine 48 rfl) rfl (fun _ => ?_) (fun _ => ?_)
                · refine ev_iconst (ea_at dt_X12_readCourtLine 51 rfl) ic_0 ?_
                  exact ev_zret (by decide) (ea_at dt_X12_readCourtLine 52 rfl) rfl ⟨by decide, by decide⟩ (fun h => hR _ h)
                · refine ev_iconst (ea_at dt_X12_readCourtLine 49 rfl) ic_1 ?_
                  refine ev_goto (tgt := 105) (ea_at dt_X12_readCourtLine 50 rfl) rfl ?_
                  exact ev_zret (by decide) (ea_at dt_X12_readCourtLine 52 rfl) rfl ⟨by decide, by decide⟩ (fun h => hR _ h)
            · refine ev_aload_n (ea_at dt_X12_readCourtLine 39 rfl) rfl ?_
              refine ev_clI (F1 := F_X12_readWind) (fun rY mY hY => ea_runV (As := []) (ea_at dt_X12_readCourtLine 40 rfl) ml_X12_183 mv_X12_readWind (ok_X12_readWind G m11  rY mY hY) sh_272 rfl rfl rfl (Nat.le_of_ble_eq_true rfl) rfl) rfl (fun r18 m17 => ?_)
              exact ev_zretG (ea_at dt_X12_readCourtLine 41 rfl) rfl ⟨by decide, by decide⟩ (fun h => hR _ h)
          · refine ev_aload_n (ea_at dt_X12_readCourtLine 32 rfl) rfl ?_
            refine ev_clI (F1 := F_X12_readYard) (fun rY mY hY => ea_runV (As := []) (ea_at dt_X12_readCourtLine 33 rfl) ml_X12_178 mv_X12_readYard (ok_X12_readYard G m9  rY mY hY) sh_272 rfl rfl rfl (Nat.le_of_ble_eq_true rfl) rfl) rfl (fun r20 m19 => ?_)
            exact ev_zretG (ea_at dt_X12_readCourtLine 34 rfl) rfl ⟨by decide, by decide⟩ (fun h => hR _ h)
        · refine ev_aload_n (ea_at dt_X12_readCourtLine 25 rfl) rfl ?_
          refine ev_clI (F1 := F_X12_readTower) (fun rY mY hY => ea_runV (As := []) (ea_at dt_X12_readCourtLine 26 rfl) ml_X12_173 mv_X12_readTower (ok_X12_readTower G m7  rY mY hY) sh_272 rfl rfl rfl (Nat.le_of_ble_eq_true rfl) rfl) rfl (fun r22 m21 => ?_)
          exact ev_zretG (ea_at dt_X12_readCourtLine 27 rfl) rfl ⟨by decide, by decide⟩ (fun h => hR _ h)
      · refine ev_aload_n (ea_at dt_X12_readCourtLine 18 rfl) rfl ?_
        refine ev_clI (F1 := F_X12_readCase) (fun rY mY hY => ea_runV (As := []) (ea_at dt_X12_readCourtLine 19 rfl) ml_X12_168 mv_X12_readCase (ok_X12_readCase G m5  rY mY hY) sh_272 rfl rfl rfl (Nat.le_of_ble_eq_true rfl) rfl) rfl (fun r24 m23 => ?_)
        exact ev_zretG (ea_at dt_X12_readCourtLine 20 rfl) rfl ⟨by decide, by decide⟩ (fun h => hR _ h)
    · refine ev_aload_n (ea_at dt_X12_readCourtLine 11 rfl) rfl ?_
      refine ev_clI (F1 := F_X12_readCounsel) (fun rY mY hY => ea_runV (As := []) (ea_at dt_X12_readCourtLine 12 rfl) ml_X12_163 mv_X12_readCounsel (ok_X12_readCounsel G m3  rY mY hY) sh_272 rfl rfl rfl (Nat.le_of_ble_eq_true rfl) rfl) rfl (fun r26 m25 => ?_)
      exact ev_zretG (ea_at dt_X12_readCourtLine 13 rfl) rfl ⟨by decide, by decide⟩ (fun h => hR _ h)
  · refine ev_aload_n (ea_at dt_X12_readCourtLine 4 rfl) rfl ?_
    refine ev_clI (F1 := F_X12_readBird) (fun rY mY hY => ea_runV (As := []) (ea_at dt_X12_readCourtLine 5 rfl) ml_X12_158 mv_X12_readBird (ok_X12_readBird G m1  rY mY hY) sh_272 rfl rfl rfl (Nat.le_of_ble_eq_true rfl) rfl) rfl (fun r28 m27 => ?_)
    exact ev_zretG (ea_at dt_X12_readCourtLine 6 rfl) rfl ⟨by decide, by decide⟩ (fun h => hR _ h)
