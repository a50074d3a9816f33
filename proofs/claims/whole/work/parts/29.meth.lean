def F_X12_laysWays : ea_F := (ea_rm 15 0 0, cX12_laysWays, RX12, none, 5, [], 0, 0)
def D_X12_laysWays : List (Nat × Instr × Nat) := [(0, .aload_n 0, 1), (1, .iload_n 1, 1), (2, .putfield 268, 3), (5, .aload_n 0, 1), (6, .iconst 0, 1), (7, .putfield 328, 3), (10, .aload_n 0, 1), (11, .iconst 0, 1), (12, .putfield 334, 3), (15, .iconst 0, 1), (16, .istore_n 2, 1), (17, .iload_n 2, 1), (18, .sipush 208, 3), (21, .if_icmp .ge 16, 3), (24, .aload_n 0, 1), (25, .getfield 42, 3), (28, .iload_n 2, 1), (29, .iconst 0, 1), (30, .iastore, 1), (31, .iinc 2 1, 3), (34, .goto (-17), 3), (37, .iconst 0, 1), (38, .istore_n 2, 1), (39, .iload_n 2, 1), (40, .sipush 144, 3), (43, .if_icmp .ge 16, 3), (46, .aload_n 0, 1), (47, .getfield 48, 3), (50, .iload_n 2, 1), (51, .iconst 0, 1), (52, .iastore, 1), (53, .iinc 2 1, 3), (56, .goto (-17), 3), (59, .aload_n 0, 1), (60, .getfield 42, 3), (63, .aload_n 0, 1), (64, .getfield 13, 3), (67, .bipush 8, 2), (69, .iaload, 1), (70, .aload_n 0, 1), (71, .getfield 13, 3), (74, .bipush 7, 2), (76, .iaload, 1), (77, .invokestatic 322, 3), (80, .iconst 1, 1), (81, .iastore, 1), (82, .iconst 0, 1), (83, .istore_n 2, 1), (84, .iload_n 2, 1), (85, .bipush 8, 2), (87, .if_icmp .ge 110, 3), (90, .iconst 0, 1), (91, .istore_n 3, 1), (92, .iload_n 3, 1), (93, .sipush 208, 3), (96, .if_icmp .ge 16, 3), (99, .aload_n 0, 1), (100, .getfield 45, 3), (103, .iload_n 3, 1), (104, .iconst 0, 1), (105, .iastore, 1), (106, .iinc 3 1, 3), (109, .goto (-17), 3), (112, .iconst 1, 1), (113, .istore_n 3, 1), (114, .iload_n 3, 1), (115, .bipush 13, 2), (117, .if_icmp .ge 47, 3), (120, .iconst 0, 1), (121, .istore 4, 2), (123, .iload 4, 2), (125, .bipush 16, 2), (127, .if_icmp .ge 31, 3), (130, .aload_n 0, 1), (131, .getfield 42, 3), (134, .iload_n 3, 1), (135, .iload 4, 2), (137, .invokestatic 322, 3), (140, .iaload, 1), (141, .ifCond .le 11, 3), (144, .aload_n 0, 1), (145, .iload_n 3, 1), (146, .iload 4, 2), (148, .iload_n 2, 1), (149, .invokevirtual 337, 3), (152, .iinc 4 1, 3), (155, .goto (-32), 3), (158, .iinc 3 1, 3), (161, .goto (-47), 3), (164, .iconst 0, 1), (165, .istore_n 3, 1), (166, .iload_n 3, 1), (167, .sipush 208, 3), (170, .if_icmp .ge 21, 3), (173, .aload_n 0, 1), (174, .getfield 42, 3), (177, .iload_n 3, 1), (178, .aload_n 0, 1), (179, .getfield 45, 3), (182, .iload_n 3, 1), (183, .iaload, 1), (184, .iastore, 1), (185, .iinc 3 1, 3), (188, .goto (-22), 3), (191, .iinc 2 1, 3), (194, .goto (-110), 3), (197, .iconst 0, 1), (198, .istore_n 2, 1), (199, .iload_n 2, 1), (200, .sipush 208, 3), (203, .if_icmp .ge 24, 3), (206, .aload_n 0, 1), (207, .dup, 1), (208, .getfield 334, 3), (211, .aload_n 0, 1), (212, .getfield 42, 3), (215, .iload_n 2, 1), (216, .iaload, 1), (217, .iadd, 1), (218, .putfield 334, 3), (221, .iinc 2 1, 3), (224, .goto (-25), 3), (227, .return_, 1)]
theorem dt_X12_laysWays : ∀ q ∈ D_X12_laysWays, decode cX12_laysWays q.1 = .ok q.2 := by decide +kernel
theorem mv_X12_laysWays : ea_MV yX12_laysWays (F_X12_laysWays) 1 := ⟨⟨List.mem_append_right _ (List.mem_of_getElem? (i := 13) (by decide +kernel)), List.mem_append_right _ (List.mem_of_getElem? (i := 1753) (by decide +kernel)), ⟨by decide, by decide⟩, by decide +kernel⟩, List.mem_append_right _ (List.mem_of_getElem? (i := 1752) (by decide +kernel)), List.mem_append_left _ (List.mem_of_getElem? (i := 83) (by decide +kernel))⟩
def f_X12_laysWays_s17  (s17 : Int32 × ea_M) : Option ((Int32 × ea_M) ⊕ (ea_M)) :=
  if 208 ≤ s17.1 then
  some (.inr s17.2)
  else
  ea_g s17.1 208 (ea_bd (ea_st s17.2 281 (Int32.toNatClampNeg s17.1) 0) fun m4 =>
  some (.inl (s17.1 + 1, m4)))
def f_X12_laysWays_s39  (s39 : Int32 × ea_M) : Option ((Int32 × ea_M) ⊕ (ea_M)) :=
  if 144 ≤ s39.1 then
  some (.inr s39.2)
  else
  ea_g s39.1 144 (ea_bd (ea_st s39.2 283 (Int32.toNatClampNeg s39.1) 0) fun m5 =>
  some (.inl (s39.1 + 1, m5)))
def f_X12_laysWays_s92 (s84 : Int32 × ea_M)  (s92 : Int32 × ea_M) : Option ((Int32 × ea_M) ⊕ (ea_M)) :=
  if 208 ≤ s92.1 then
  some (.inr s92.2)
  else
  ea_g s92.1 208 (ea_bd (ea_st s92.2 282 (Int32.toNatClampNeg s92.1) 0) fun m11 =>
  some (.inl (s92.1 + 1, m11)))
def f_X12_laysWays_j152 (s84 : Int32 × ea_M) (s114 : Int32 × ea_M) (x15 : Int32) (m16 : ea_M) : Option ((Int32 × ea_M) ⊕ (ea_M)) :=
  some (.inl (x15 + 1, m16))
def f_X12_laysWays_s123 (s84 : Int32 × ea_M) (s114 : Int32 × ea_M)  (s123 : Int32 × ea_M) : Option ((Int32 × ea_M) ⊕ (ea_M)) :=
  if 16 ≤ s123.1 then
  some (.inr s123.2)
  else
  ea_cl (f_X12_at s114.1 s123.1 s123.2) fun r13 m12 =>
  ea_g r13 208 (ea_bd (m12 281 (Int32.toNatClampNeg r13)) fun x14 =>
  if x14 ≤ 0 then
  f_X12_laysWays_j152 s84 s114 s123.1 m12
  else
  ea_cl (f_X12_goesOn s114.1 s123.1 s84.1 m12) fun r18 m17 =>
  f_X12_laysWays_j152 s84 s114 s123.1 m17)
def f_X12_laysWays_s114 (s84 : Int32 × ea_M)  (s114 : Int32 × ea_M) : Option ((Int32 × ea_M) ⊕ (ea_M)) :=
  if 13 ≤ s114.1 then
  some (.inr s114.2)
  else
  (ea_loop (f_X12_laysWays_s123 s84 s114) ea_fuel (0, s114.2)).bind (fun x123s =>
  some (.inl (s114.1 + 1, x123s)))
def f_X12_laysWays_s166 (s84 : Int32 × ea_M)  (s166 : Int32 × ea_M) : Option ((Int32 × ea_M) ⊕ (ea_M)) :=
  if 208 ≤ s166.1 then
  some (.inr s166.2)
  else
  ea_g s166.1 208 (ea_bd (s166.2 282 (Int32.toNatClampNeg s166.1)) fun x19 =>
  ea_g s166.1 208 (ea_bd (ea_st s166.2 281 (Int32.toNatClampNeg s166.1) x19) fun m20 =>
  some (.inl (s166.1 + 1, m20))))
def f_X12_laysWays_s84  (s84 : Int32 × ea_M) : Option ((Int32 × ea_M) ⊕ (ea_M)) :=
  if 8 ≤ s84.1 then
  some (.inr s84.2)
  else
  (ea_loop (f_X12_laysWays_s92 s84) ea_fuel (0, s84.2)).bind (fun x92s =>
  (ea_loop (f_X12_laysWays_s114 s84) ea_fuel (1, x92s)).bind (fun x114s =>
  (ea_loop (f_X12_laysWays_s166 s84) ea_fuel (0, x114s)).bind (fun x166s =>
  some (.inl (s84.1 + 1, x166s)))))
def f_X12_laysWays_s199  (s199 : Int32 × ea_M) : Option ((Int32 × ea_M) ⊕ (ea_M)) :=
  if 208 ≤ s199.1 then
  some (.inr s199.2)
  else
  ea_bd (s199.2 272 26) fun x21 =>
  ea_g s199.1 208 (ea_bd (s199.2 281 (Int32.toNatClampNeg s199.1)) fun x22 =>
  ea_bd (ea_st s199.2 272 26 (x21 + x22)) fun m23 =>
  some (.inl (s199.1 + 1, m23)))
def f_X12_laysWays (p1 : Int32) (m : ea_M) : Option (Int32 × ea_M) :=
  ea_bd (ea_st m 272 18 p1) fun m1 =>
  ea_bd (ea_st m1 272 25 0) fun m2 =>
  ea_bd (ea_st m2 272 26 0) fun m3 =>
  (ea_loop f_X12_laysWays_s17 ea_fuel (0, m3)).bind (fun x17s =>
  (ea_loop f_X12_laysWays_s39 ea_fuel (0, x17s)).bind (fun x39s =>
  ea_bd (x39s 273 8) fun x6 =>
  ea_bd (x39s 273 7) fun x7 =>
  ea_cl (f_X12_at x6 x7 x39s) fun r9 m8 =>
  ea_g r9 208 (ea_bd (ea_st m8 281 (Int32.toNatClampNeg r9) 1) fun m10 =>
  (ea_loop f_X12_laysWays_s84 ea_fuel (0, m10)).bind (fun x84s =>
  (ea_loop f_X12_laysWays_s199 ea_fuel (0, x84s)).bind (fun x199s =>
  some (0, x199s))))))
set_option maxHeartbeats 300000 in
theorem lp_X12_laysWays_17 (G : ea_G) {res : ea_O}    {Ψ : ea_M → Prop} (hX : ∀ x17s : ea_M, Ψ x17s → ea_Ev G F_X12_laysWays res 37 [some (.ref 272), none, none, none, none] [] x17s 0 0) : ∀ (f : Nat) (s17 : Int32 × ea_M), ea_E G F_X12_laysWays res 17 [some (.ref 272), none, some (.int s17.1), none, none] [] s17.2 0 0 (ea_loop f_X12_laysWays_s17 f s17) Ψ := by
  refine ev_loop (G := G) (F := F_X12_laysWays) (res := res) (pc := 17) (st := []) (k := 0) (n := 0) (step := f_X12_laysWays_s17) (Ψ := Ψ) (fun (s17 : Int32 × ea_M) => [some (.ref 272), none, some (.int s17.1), none, none]) (fun (s17 : Int32 × ea_M) => s17.2) (fun s17 => ?_)
  have hC : ∀ s17 : Int32 × ea_M, (Sum.elim (fun s17 : Int32 × ea_M => ea_Ev G F_X12_laysWays res 17 [some (.ref 272), none, some (.int s17.1), none, none] [] s17.2 0 0) Ψ) (.inl s17) → ea_Ev G F_X12_laysWays res 17 [some (.ref 272), none, some (.int s17.1), none, none] [] s17.2 0 0 := fun _ h => h
  have hX : ∀ x17s : ea_M, (Sum.elim (fun s17 : Int32 × ea_M => ea_Ev G F_X12_laysWays res 17 [some (.ref 272), none, some (.int s17.1), none, none] [] s17.2 0 0) Ψ) (.inr x17s) → ea_Ev G F_X12_laysWays res 37 [some (.ref 272), none, none, none, none] [] x17s 0 0 := hX
  unfold f_X12_laysWays_s17
  refine ev_iload_n (ea_at dt_X12_laysWays 11 rfl) rfl ?_
  refine ev_sipush (ea_at dt_X12_laysWays 12 rfl) sp_208 ?_
  refine ev_icmp_ge (tgt := 37) (ea_at dt_X12_laysWays 13 rfl) rfl (fun _ => ?_) (fun _ => ?_)
  · exact ev_leaf (fun h => ea_drop (l' := [some (.ref 272), none, none, none, none]) ⟨Or.inr rfl, Or.inl rfl, Or.inl rfl, Or.inl rfl, Or.inl rfl, trivial⟩ (hX s17.2 h))
  · refine ev_aload_n (ea_at dt_X12_laysWays 14 rfl) rfl ?_
    refine ev_getR (ea_at dt_X12_laysWays 15 rfl) fl_X12_42 sh_272 rfl ?_
    refine ev_iload_n (ea_at dt_X12_laysWays 16 rfl) rfl ?_
    refine ev_iconst (ea_at dt_X12_laysWays 17 rfl) ic_0 ?_
    refine ev_iastore (ea_at dt_X12_laysWays 18 rfl) sh_281 (by decide) ?_
    refine ev_m (fun m4 => ?_)
    refine ev_iinc (ls' := [some (.ref 272), none, some (.int (s17.1 + 1)), none, none]) (ea_at dt_X12_laysWays 19 rfl) rfl (congrArg (fun z => _ + z) ic_1) (ea_lt rfl) rfl ?_
    refine ev_goto (tgt := 17) (ea_at dt_X12_laysWays 20 rfl) rfl ?_
    exact ev_leaf (fun h => ea_drop (l' := [some (.ref 272), none, some (.int (s17.1 + 1)), none, none]) ⟨Or.inr rfl, Or.inl rfl, Or.inr rfl, Or.inl rfl, Or.inl rfl, trivial⟩ (hC (s17.1 + 1, m4) h))
set_option maxHeartbeats 300000 in
theorem lp_X12_laysWays_39 (G : ea_G) {res : ea_O}    {Ψ : ea_M → Prop} (hX : ∀ x39s : ea_M, Ψ x39s → ea_Ev G F_X12_laysWays res 59 [some (.ref 272), none, none, none, none] [] x39s 0 0) : ∀ (f : Nat) (s39 : Int32 × ea_M), ea_E G F_X12_laysWays res 39 [some (.ref 272), none, some (.int s39.1), none, none] [] s39.2 0 0 (ea_loop f_X12_laysWays_s39 f s39) Ψ := by
  refine ev_loop (G := G) (F := F_X12_laysWays) (res := res) (pc := 39) (st := []) (k := 0) (n := 0) (step := f_X12_laysWays_s39) (Ψ := Ψ) (fun (s39 : Int32 × ea_M) => [some (.ref 272), none, some (.int s39.1), none, none]) (fun (s39 : Int32 × ea_M) => s39.2) (fun s39 => ?_)
  have hC : ∀ s39 : Int32 × ea_M, (Sum.elim (fun s39 : Int32 × ea_M => ea_Ev G F_X12_laysWays res 39 [some (.ref 272), none, some (.int s39.1), none, none] [] s39.2 0 0) Ψ) (.inl s39) → ea_Ev G F_X12_laysWays res 39 [some (.ref 272), none, some (.int s39.1), none, none] [] s39.2 0 0 := fun _ h => h
  have hX : ∀ x39s : ea_M, (Sum.elim (fun s39 : Int32 × ea_M => ea_Ev G F_X12_laysWays res 39 [some (.ref 272), none, some (.int s39.1), none, none] [] s39.2 0 0) Ψ) (.inr x39s) → ea_Ev G F_X12_laysWays res 59 [some (.ref 272), none, none, none, none] [] x39s 0 0 := hX
  unfold f_X12_laysWays_s39
  refine ev_iload_n (ea_at dt_X12_laysWays 23 rfl) rfl ?_
  refine ev_sipush (ea_at dt_X12_laysWays 24 rfl) sp_144 ?_
  refine ev_icmp_ge (tgt := 59) (ea_at dt_X12_laysWays 25 rfl) rfl (fun _ => ?_) (fun _ => ?_)
  · exact ev_leaf (fun h => ea_drop (l' := [some (.ref 272), none, none, none, none]) ⟨Or.inr rfl, Or.inl rfl, Or.inl rfl, Or.inl rfl, Or.inl rfl, trivial⟩ (hX s39.2 h))
  · refine ev_aload_n (ea_at dt_X12_laysWays 26 rfl) rfl ?_
    refine ev_getR (ea_at dt_X12_laysWays 27 rfl) fl_X12_48 sh_272 rfl ?_
    refine ev_iload_n (ea_at dt_X12_laysWays 28 rfl) rfl ?_
    refine ev_iconst (ea_at dt_X12_laysWays 29 rfl) ic_0 ?_
    refine ev_iastore (ea_at dt_X12_laysWays 30 rfl) sh_283 (by decide) ?_
    refine ev_m (fun m5 => ?_)
    refine ev_iinc (ls' := [some (.ref 272), none, some (.int (s39.1 + 1)), none, none]) (ea_at dt_X12_laysWays 31 rfl) rfl (congrArg (fun z => _ + z) ic_1) (ea_lt rfl) rfl ?_
    refine ev_goto (tgt := 39) (ea_at dt_X12_laysWays 32 rfl) rfl ?_
    exact ev_leaf (fun h => ea_drop (l' := [some (.ref 272), none, some (.int (s39.1 + 1)), none, none]) ⟨Or.inr rfl, Or.inl rfl, Or.inr rfl, Or.inl rfl, Or.inl rfl, trivial⟩ (hC (s39.1 + 1, m5) h))
set_option maxHeartbeats 300000 in
theorem lp_X12_laysWays_92 (G : ea_G) {res : ea_O}  (s84 : Int32 × ea_M)  {Ψ : ea_M → Prop} (hX : ∀ x92s : ea_M, Ψ x92s → ea_Ev G F_X12_laysWays res 112 [some (.ref 272), none, some (.int s84.1), none, none] [] x92s 0 0) : ∀ (f : Nat) (s92 : Int32 × ea_M), ea_E G F_X12_laysWays res 92 [some (.ref 272), none, some (.int s84.1), some (.int s92.1), none] [] s92.2 0 0 (ea_loop (f_X12_laysWays_s92 s84) f s92) Ψ := by
  refine ev_loop (G := G) (F := F_X12_laysWays) (res := res) (pc := 92) (st := []) (k := 0) (n := 0) (step := (f_X12_laysWays_s92 s84)) (Ψ := Ψ) (fun (s92 : Int32 × ea_M) => [some (.ref 272), none, some (.int s84.1), some (.int s92.1), none]) (fun (s92 : Int32 × ea_M) => s92.2) (fun s92 => ?_)
  have hC : ∀ s92 : Int32 × ea_M, (Sum.elim (fun s92 : Int32 × ea_M => ea_Ev G F_X12_laysWays res 92 [some (.ref 272), none, some (.int s84.1), some (.int s92.1), none] [] s92.2 0 0) Ψ) (.inl s92) → ea_Ev G F_X12_laysWays res 92 [some (.ref 272), none, some (.int s84.1), some (.int s92.1), none] [] s92.2 0 0 := fun _ h => h
  have hX : ∀ x92s : ea_M, (Sum.elim (fun s92 : Int32 × ea_M => ea_Ev G F_X12_laysWays res 92 [some (.ref 272), none, some (.int s84.1), some (.int s92.1), none] [] s92.2 0 0) Ψ) (.inr x92s) → ea_Ev G F_X12_laysWays res 112 [some (.ref 272), none, some (.int s84.1), none, none] [] x92s 0 0 := hX
  unfold f_X12_laysWays_s92
  refine ev_iload_n (ea_at dt_X12_laysWays 53 rfl) rfl ?_
  refine ev_sipush (ea_at dt_X12_laysWays 54 rfl) sp_208 ?_
  refine ev_icmp_ge (tgt := 112) (ea_at dt_X12_laysWays 55 rfl) rfl (fun _ => ?_) (fun _ => ?_)
  · exact ev_leaf (fun h => ea_drop (l' := [some (.ref 272), none, some (.int s84.1), none, none]) ⟨Or.inr rfl, Or.inl rfl, Or.inr rfl, Or.inl rfl, Or.inl rfl, trivial⟩ (hX s92.2 h))
  · refine ev_aload_n (ea_at dt_X12_laysWays 56 rfl) rfl ?_
    refine ev_getR (ea_at dt_X12_laysWays 57 rfl) fl_X12_45 sh_272 rfl ?_
    refine ev_iload_n (ea_at dt_X12_laysWays 58 rfl) rfl ?_
    refine ev_iconst (ea_at dt_X12_laysWays 59 rfl) ic_0 ?_
    refine ev_iastore (ea_at dt_X12_laysWays 60 rfl) sh_282 (by decide) ?_
    refine ev_m (fun m11 => ?_)
    refine ev_iinc (ls' := [some (.ref 272), none, some (.int s84.1), some (.int (s92.1 + 1)), none]) (ea_at dt_X12_laysWays 61 rfl) rfl (congrArg (fun z => _ + z) ic_1) (ea_lt rfl) rfl ?_
    refine ev_goto (tgt := 92) (ea_at dt_X12_laysWays 62 rfl) rfl ?_
    exact ev_leaf (fun h => ea_drop (l' := [some (.ref 272), none, some (.int s84.1), some (.int (s92.1 + 1)), none]) ⟨Or.inr rfl, Or.inl rfl, Or.inr rfl, Or.inr rfl, Or.inl rfl, trivial⟩ (hC (s92.1 + 1, m11) h))
set_option maxHeartbeats 300000 in
theorem jn_X12_laysWays_152 (G : ea_G) {res : ea_O}  (s84 : Int32 × ea_M) (s114 : Int32 × ea_M) (x15 : Int32) (m16 : ea_M)  {Φ : ((Int32 × ea_M) ⊕ (ea_M)) → Prop} (hC : ∀ s123 : Int32 × ea_M, Φ (.inl s123) → ea_Ev G F_X12_laysWays res 123 [some (.ref 272), none, some (.int s84.1), some (.int s114.1), some (.int s123.1)] [] s123.2 0 0) (hX : ∀ x123s : ea_M, Φ (.inr x123s) → ea_Ev G F_X12_laysWays res 158 [some (.ref 272), none, some (.int s84.1), some (.int s114.1), none] [] x123s 0 0) : ea_E G F_X12_laysWays res 152 [some (.ref 272), none, some (.int s84.1), some (.int s114.1), some (.int x15)] [] m16 0 0 (f_X12_laysWays_j152 s84 s114 x15 m16) Φ := by
  unfold f_X12_laysWays_j152
  refine ev_iinc (ls' := [some (.ref 272), none, some (.int s84.1), some (.int s114.1), some (.int (x15 + 1))]) (ea_at dt_X12_laysWays 85 rfl) rfl (congrArg (fun z => _ + z) ic_1) (ea_lt rfl) rfl ?_
  refine ev_goto (tgt := 123) (ea_at dt_X12_laysWays 86 rfl) rfl ?_
  exact ev_leaf (fun h => ea_drop (l' := [some (.ref 272), none, some (.int s84.1), some (.int s114.1), some (.int (x15 + 1))]) ⟨Or.inr rfl, Or.inl rfl, Or.inr rfl, Or.inr rfl, Or.inr rfl, trivial⟩ (hC (x15 + 1, m16) h))
set_option maxHeartbeats 300000 in
theorem lp_X12_laysWays_123 (G : ea_G) {res : ea_O}  (s84 : Int32 × ea_M) (s114 : Int32 × ea_M)  {Ψ : ea_M → Prop} (hX : ∀ x123s : ea_M, Ψ x123s → ea_Ev G F_X12_laysWays res 158 [some (.ref 272), none, some (.int s84.1), some (.int s114.1), none] [] x123s 0 0) : ∀ (f : Nat) (s123 : Int32 × ea_M), ea_E G F_X12_laysWays res 123 [some (.ref 272), none, some (.int s84.1), some (.int s114.1), some (.int s123.1)] [] s123.2 0 0 (ea_loop (f_X12_laysWays_s123 s84 s114) f s123) Ψ := by
  refine ev_loop (G := G) (F := F_X12_laysWays) (res := res) (pc := 123) (st := []) (k := 0) (n := 0) (step := (f_X12_laysWays_s123 s84 s114)) (Ψ := Ψ) (fun (s123 : Int32 × ea_M) => [some (.ref 272), none, some (.int s84.1), some (.int s114.1), some (.int s123.1)]) (fun (s123 : Int32 × ea_M) => s123.2) (fun s123 => ?_)
  have hC : ∀ s123 : Int32 × ea_M, (Sum.elim (fun s123 : Int32 × ea_M => ea_Ev G F_X12_laysWays res 123 [some (.ref 272), none, some (.int s84.1), some (.int s114.1), some (.int s123.1)] [] s123.2 0 0) Ψ) (.inl s123) → ea_Ev G F_X12_laysWays res 123 [some (.ref 272), none, some (.int s84.1), some (.int s114.1), some (.int s123.1)] [] s123.2 0 0 := fun _ h => h
  have hX : ∀ x123s : ea_M, (Sum.elim (fun s123 : Int32 × ea_M => ea_Ev G F_X12_laysWays res 123 [some (.ref 272), none, some (.int s84.1), some (.int s114.1), some (.int s123.1)] [] s123.2 0 0) Ψ) (.inr x123s) → ea_Ev G F_X12_laysWays res 158 [some (.ref 272), none, some (.int s84.1), some (.int s114.1), none] [] x123s 0 0 := hX
  unfold f_X12_laysWays_s123
  refine ev_iload (ea_at dt_X12_laysWays 70 rfl) rfl ?_
  refine ev_bipush (ea_at dt_X12_laysWays 71 rfl) bp_16 ?_
  refine ev_icmp_ge (tgt := 158) (ea_at dt_X12_laysWays 72 rfl) rfl (fun _ => ?_) (fun _ => ?_)
  · exact ev_leaf (fun h => ea_drop (l' := [some (.ref 272), none, some (.int s84.1), some (.int s114.1), none]) ⟨Or.inr rfl, Or.inl rfl, Or.inr rfl, Or.inr rfl, Or.inl rfl, trivial⟩ (hX s123.2 h))
  · refine ev_aload_n (ea_at dt_X12_laysWays 73 rfl) rfl ?_
    refine ev_getR (ea_at dt_X12_laysWays 74 rfl) fl_X12_42 sh_272 rfl ?_
    refine ev_iload_n (ea_at dt_X12_laysWays 75 rfl) rfl ?_
    refine ev_iload (ea_at dt_X12_laysWays 76 rfl) rfl ?_
    refine ev_clI (F1 := F_X12_at) (fun rY mY hY => ea_runS (As := [.int s114.1, .int s123.1]) (ea_at dt_X12_laysWays 77 rfl) ml_X12_322 mv_X12_at (ok_X12_at G s114.1 s123.1 s123.2  rY mY hY) rfl rfl (Nat.le_of_ble_eq_true rfl) rfl) rfl (fun r13 m12 => ?_)
    refine ev_iaload (ea_at dt_X12_laysWays 78 rfl) sh_281 (by decide) ?_
    refine ev_i (fun x14 => ?_)
    refine ev_if_le (tgt := 152) (ea_at dt_X12_laysWays 79 rfl) rfl (fun _ => ?_) (fun _ => ?_)
    · exact ev_drop (l' := [some (.ref 272), none, some (.int s84.1), some (.int s114.1), some (.int s123.1)]) ⟨Or.inr rfl, Or.inl rfl, Or.inr rfl, Or.inr rfl, Or.inr rfl, trivial⟩ (jn_X12_laysWays_152 G s84 s114 s123.1 m12  hC hX)
    · refine ev_aload_n (ea_at dt_X12_laysWays 80 rfl) rfl ?_
      refine ev_iload_n (ea_at dt_X12_laysWays 81 rfl) rfl ?_
      refine ev_iload (ea_at dt_X12_laysWays 82 rfl) rfl ?_
      refine ev_iload_n (ea_at dt_X12_laysWays 83 rfl) rfl ?_
      refine ev_clU (F1 := F_X12_goesOn) (fun rY mY hY => ea_runV (As := [.int s114.1, .int s123.1, .int s84.1]) (ea_at dt_X12_laysWays 84 rfl) ml_X12_337 mv_X12_goesOn (ok_X12_goesOn G s114.1 s123.1 s84.1 m12  rY mY hY) sh_272 rfl rfl rfl (Nat.le_of_ble_eq_true rfl) rfl) rfl (fun r18 m17 => ?_)
      exact ev_drop (l' := [some (.ref 272), none, some (.int s84.1), some (.int s114.1), some (.int s123.1)]) ⟨Or.inr rfl, Or.inl rfl, Or.inr rfl, Or.inr rfl, Or.inr rfl, trivial⟩ (jn_X12_laysWays_152 G s84 s114 s123.1 m17  hC hX)
set_option maxHeartbeats 300000 in
theorem lp_X12_laysWays_114 (G : ea_G) {res : ea_O}  (s84 : Int32 × ea_M)  {Ψ : ea_M → Prop} (hX : ∀ x114s : ea_M, Ψ x114s → ea_Ev G F_X12_laysWays res 164 [some (.ref 272), none, some (.int s84.1), none, none] [] x114s 0 0) : ∀ (f : Nat) (s114 : Int32 × ea_M), ea_E G F_X12_laysWays res 114 [some (.ref 272), none, some (.int s84.1), some (.int s114.1), none] [] s114.2 0 0 (ea_loop (f_X12_laysWays_s114 s84) f s114) Ψ := by
  refine ev_loop (G := G) (F := F_X12_laysWays) (res := res) (pc := 114) (st := []) (k := 0) (n := 0) (step := (f_X12_laysWays_s114 s84)) (Ψ := Ψ) (fun (s114 : Int32 × ea_M) => [some (.ref 272), none, some (.int s84.1), some (.int s114.1), none]) (fun (s114 : Int32 × ea_M) => s114.2) (fun s114 => ?_)
  have hC : ∀ s114 : Int32 × ea_M, (Sum.elim (fun s114 : Int32 × ea_M => ea_Ev G F_X12_laysWays res 114 [some (.ref 272), none, some (.int s84.1), some (.int s114.1), none] [] s114.2 0 0) Ψ) (.inl s114) → ea_Ev G F_X12_laysWays res 114 [some (.ref 272), none, some (.int s84.1), some (.int s114.1), none] [] s114.2 0 0 := fun _ h => h
  have hX : ∀ x114s : ea_M, (Sum.elim (fun s114 : Int32 × ea_M => ea_Ev G F_X12_laysWays res 114 [some (.ref 272), none, some (.int s84.1), some (.int s114.1), none] [] s114.2 0 0) Ψ) (.inr x114s) → ea_Ev G F_X12_laysWays res 164 [some (.ref 272), none, some (.int s84.1), none, none] [] x114s 0 0 := hX
  unfold f_X12_laysWays_s114
  refine ev_iload_n (ea_at dt_X12_laysWays 65 rfl) rfl ?_
  refine ev_bipush (ea_at dt_X12_laysWays 66 rfl) bp_13 ?_
  refine ev_icmp_ge (tgt := 164) (ea_at dt_X12_laysWays 67 rfl) rfl (fun _ => ?_) (fun _ => ?_)
  · exact ev_leaf (fun h => ea_drop (l' := [some (.ref 272), none, some (.int s84.1), none, none]) ⟨Or.inr rfl, Or.inl rfl, Or.inr rfl, Or.inl rfl, Or.inl rfl, trivial⟩ (hX s114.2 h))
  · refine ev_iconst (ea_at dt_X12_laysWays 68 rfl) ic_0 ?_
    refine ev_istore (ls' := [some (.ref 272), none, some (.int s84.1), some (.int s114.1), some (.int 0)]) (ea_at dt_X12_laysWays 69 rfl) (ea_lt rfl) rfl ?_
    refine ev_drop (l' := [some (.ref 272), none, some (.int s84.1), some (.int s114.1), some (.int 0)]) ⟨Or.inr rfl, Or.inl rfl, Or.inr rfl, Or.inr rfl, Or.inr rfl, trivial⟩ ?_
    refine ev_bind (lp_X12_laysWays_123 G s84 s114   (fun x123s h => ?_) ea_fuel (0, s114.2))
    obtain ⟨t1, e1, q1⟩ := h
    refine (?_ : ea_E G F_X12_laysWays res 158 [some (.ref 272), none, some (.int s84.1), some (.int s114.1), none] [] x123s 0 0 _ (Sum.elim (fun s114 : Int32 × ea_M => ea_Ev G F_X12_laysWays res 114 [some (.ref 272), none, some (.int s84.1), some (.int s114.1), none] [] s114.2 0 0) Ψ)) t1 e1 q1
    refine ev_iinc (ls' := [some (.ref 272), none, some (.int s84.1), some (.int (s114.1 + 1)), none]) (ea_at dt_X12_laysWays 87 rfl) rfl (congrArg (fun z => _ + z) ic_1) (ea_lt rfl) rfl ?_
    refine ev_goto (tgt := 114) (ea_at dt_X12_laysWays 88 rfl) rfl ?_
    exact ev_leaf (fun h => ea_drop (l' := [some (.ref 272), none, some (.int s84.1), some (.int (s114.1 + 1)), none]) ⟨Or.inr rfl, Or.inl rfl, Or.inr rfl, Or.inr rfl, Or.inl rfl, trivial⟩ (hC (s114.1 + 1, x123s) h))
set_option maxHeartbeats 300000 in
theorem lp_X12_laysWays_166 (G : ea_G) {res : ea_O}  (s84 : Int32 × ea_M)  {Ψ : ea_M → Prop} (hX : ∀ x166s : ea_M, Ψ x166s → ea_Ev G F_X12_laysWays res 191 [some (.ref 272), none, some (.int s84.1), none, none] [] x166s 0 0) : ∀ (f : Nat) (s166 : Int32 × ea_M), ea_E G F_X12_laysWays res 166 [some (.ref 272), none, some (.int s84.1), some (.int s166.1), none] [] s166.2 0 0 (ea_loop (f_X12_laysWays_s166 s84) f s166) Ψ := by
  refine ev_loop (G := G) (F := F_X12_laysWays) (res := res) (pc := 166) (st := []) (k := 0) (n := 0) (step := (f_X12_laysWays_s166 s84)) (Ψ := Ψ) (fun (s166 : Int32 × ea_M) => [some (.ref 272), none, some (.int s84.1), some (.int s166.1), none]) (fun (s166 : Int32 × ea_M) => s166.2) (fun s166 => ?_)
  have hC : ∀ s166 : Int32 × ea_M, (Sum.elim (fun s166 : Int32 × ea_M => ea_Ev G F_X12_laysWays res 166 [some (.ref 272), none, some (.int s84.1), some (.int s166.1), none] [] s166.2 0 0) Ψ) (.inl s166) → ea_Ev G F_X12_laysWays res 166 [some (.ref 272), none, some (.int s84.1), some (.int s166.1), none] [] s166.2 0 0 := fun _ h => h
  have hX : ∀ x166s : ea_M, (Sum.elim (fun s166 : Int32 × ea_M => ea_Ev G F_X12_laysWays res 166 [some (.ref 272), none, some (.int s84.1), some (.int s166.1), none] [] s166.2 0 0) Ψ) (.inr x166s) → ea_Ev G F_X12_laysWays res 191 [some (.ref 272), none, some (.int s84.1), none, none] [] x166s 0 0 := hX
  unfold f_X12_laysWays_s166
  refine ev_iload_n (ea_at dt_X12_laysWays 91 rfl) rfl ?_
  refine ev_sipush (ea_at dt_X12_laysWays 92 rfl) sp_208 ?_
  refine ev_icmp_ge (tgt := 191) (ea_at dt_X12_laysWays 93 rfl) rfl (fun _ => ?_) (fun _ => ?_)
  · exact ev_leaf (fun h => ea_drop (l' := [some (.ref 272), none, some (.int s84.1), none, none]) ⟨Or.inr rfl, Or.inl rfl, Or.inr rfl, Or.inl rfl, Or.inl rfl, trivial⟩ (hX s166.2 h))
  · refine ev_aload_n (ea_at dt_X12_laysWays 94 rfl) rfl ?_
    refine ev_getR (ea_at dt_X12_laysWays 95 rfl) fl_X12_42 sh_272 rfl ?_
    refine ev_iload_n (ea_at dt_X12_laysWays 96 rfl) rfl ?_
    refine ev_aload_n (ea_at dt_X12_laysWays 97 rfl) rfl ?_
    refine ev_getR (ea_at dt_X12_laysWays 98 rfl) fl_X12_45 sh_272 rfl ?_
    refine ev_iload_n (ea_at dt_X12_laysWays 99 rfl) rfl ?_
    refine ev_iaload (ea_at dt_X12_laysWays 100 rfl) sh_282 (by decide) ?_
    refine ev_i (fun x19 => ?_)
    refine ev_iastore (ea_at dt_X12_laysWays 101 rfl) sh_281 (by decide) ?_
    refine ev_m (fun m20 => ?_)
    refine ev_iinc (ls' := [some (.ref 272), none, some (.int s84.1), some (.int (s166.1 + 1)), none]) (ea_at dt_X12_laysWays 102 rfl) rfl (congrArg (fun z => _ + z) ic_1) (ea_lt rfl) rfl ?_
    refine ev_goto (tgt := 166) (ea_at dt_X12_laysWays 103 rfl) rfl ?_
    exact ev_leaf (fun h => ea_drop (l' := [some (.ref 272), none, some (.int s84.1), some (.int (s166.1 + 1)), none]) ⟨Or.inr rfl, Or.inl rfl, Or.inr rfl, Or.inr rfl, Or.inl rfl, trivial⟩ (hC (s166.1 + 1, m20) h))
set_option maxHeartbeats 300000 in
theorem lp_X12_laysWays_84 (G : ea_G) {res : ea_O}    {Ψ : ea_M → Prop} (hX : ∀ x84s : ea_M, Ψ x84s → ea_Ev G F_X12_laysWays res 197 [some (.ref 272), none, none, none, none] [] x84s 0 0) : ∀ (f : Nat) (s84 : Int32 × ea_M), ea_E G F_X12_laysWays res 84 [some (.ref 272), none, some (.int s84.1), none, none] [] s84.2 0 0 (ea_loop f_X12_laysWays_s84 f s84) Ψ := by
  refine ev_loop (G := G) (F := F_X12_laysWays) (res := res) (pc := 84) (st := []) (k := 0) (n := 0) (step := f_X12_laysWays_s84) (Ψ := Ψ) (fun (s84 : Int32 × ea_M) => [some (.ref 272), none, some (.int s84.1), none, none]) (fun (s84 : Int32 × ea_M) => s84.2) (fun s84 => ?_)
  have hC : ∀ s84 : Int32 × ea_M, (Sum.elim (fun s84 : Int32 × ea_M => ea_Ev G F_X12_laysWays res 84 [some (.ref 272), none, some (.int s84.1), none, none] [] s84.2 0 0) Ψ) (.inl s84) → ea_Ev G F_X12_laysWays res 84 [some (.ref 272), none, some (.int s84.1), none, none] [] s84.2 0 0 := fun _ h => h
  have hX : ∀ x84s : ea_M, (Sum.elim (fun s84 : Int32 × ea_M => ea_Ev G F_X12_laysWays res 84 [some (.ref 272), none, some (.int s84.1), none, none] [] s84.2 0 0) Ψ) (.inr x84s) → ea_Ev G F_X12_laysWays res 197 [some (.ref 272), none, none, none, none] [] x84s 0 0 := hX
  unfold f_X12_laysWays_s84
  refine ev_iload_n (ea_at dt_X12_laysWays 48 rfl) rfl ?_
  refine ev_bipush (ea_at dt_X12_laysWays 49 rfl) bp_8 ?_
  refine ev_icmp_ge (tgt := 197) (ea_at dt_X12_laysWays 50 rfl) rfl (fun _ => ?_) (fun _ => ?_)
  · exact ev_leaf (fun h => ea_drop (l' := [some (.ref 272), none, none, none, none]) ⟨Or.inr rfl, Or.inl rfl, Or.inl rfl, Or.inl rfl, Or.inl rfl, trivial⟩ (hX s84.2 h))
  · refine ev_iconst (ea_at dt_X12_laysWays 51 rfl) ic_0 ?_
    refine ev_istore_n (ls' := [some (.ref 272), none, some (.int s84.1), some (.int 0), none]) (ea_at dt_X12_laysWays 52 rfl) (ea_lt rfl) rfl ?_
    refine ev_drop (l' := [some (.ref 272), none, some (.int s84.1), some (.int 0), none]) ⟨Or.inr rfl, Or.inl rfl, Or.inr rfl, Or.inr rfl, Or.inl rfl, trivial⟩ ?_
    refine ev_bind (lp_X12_laysWays_92 G s84   (fun x92s h => ?_) ea_fuel (0, s84.2))
    obtain ⟨t1, e1, q1⟩ := h
    refine (?_ : ea_E G F_X12_laysWays res 112 [some (.ref 272), none, some (.int s84.1), none, none] [] x92s 0 0 _ (Sum.elim (fun s84 : Int32 × ea_M => ea_Ev G F_X12_laysWays res 84 [some (.ref 272), none, some (.int s84.1), none, none] [] s84.2 0 0) Ψ)) t1 e1 q1
    refine ev_iconst (ea_at dt_X12_laysWays 63 rfl) ic_1 ?_
    refine ev_istore_n (ls' := [some (.ref 272), none, some (.int s84.1), some (.int 1), none]) (ea_at dt_X12_laysWays 64 rfl) (ea_lt rfl) rfl ?_
    refine ev_drop (l' := [some (.ref 272), none, some (.int s84.1), some (.int 1), none]) ⟨Or.inr rfl, Or.inl rfl, Or.inr rfl, Or.inr rfl, Or.inl rfl, trivial⟩ ?_
    refine ev_bind (lp_X12_laysWays_114 G s84   (fun x114s h => ?_) ea_fuel (1, x92s))
    obtain ⟨t1, e1, q1⟩ := h
    refine (?_ : ea_E G F_X12_laysWays res 164 [some (.ref 272), none, some (.int s84.1), none, none] [] x114s 0 0 _ (Sum.elim (fun s84 : Int32 × ea_M => ea_Ev G F_X12_laysWays res 84 [some (.ref 272), none, some (.int s84.1), none, none] [] s84.2 0 0) Ψ)) t1 e1 q1
    refine ev_iconst (ea_at dt_X12_laysWays 89 rfl) ic_0 ?_
    refine ev_istore_n (ls' := [some (.ref 272), none, some (.int s84.1), some (.int 0), none]) (ea_at dt_X12_laysWays 90 rfl) (ea_lt rfl) rfl ?_
    refine ev_drop (l' := [some (.ref 272), none, some (.int s84.1), some (.int 0), none]) ⟨Or.inr rfl, Or.inl rfl, Or.inr rfl, Or.inr rfl, Or.inl rfl, trivial⟩ ?_
    refine ev_bind (lp_X12_laysWays_166 G s84   (fun x166s h => ?_) ea_fuel (0, x114s))
    obtain ⟨t1, e1, q1⟩ := h
    refine (?_ : ea_E G F_X12_laysWays res 191 [some (.ref 272), none, some (.int s84.1), none, none] [] x166s 0 0 _ (Sum.elim (fun s84 : Int32 × ea_M => ea_Ev G F_X12_laysWays res 84 [some (.ref 272), none, some (.int s84.1), none, none] [] s84.2 0 0) Ψ)) t1 e1 q1
    refine ev_iinc (ls' := [some (.ref 272), none, some (.int (s84.1 + 1)), none, none]) (ea_at dt_X12_laysWays 104 rfl) rfl (congrArg (fun z => _ + z) ic_1) (ea_lt rfl) rfl ?_
    refine ev_goto (tgt := 84) (ea_at dt_X12_laysWays 105 rfl) rfl ?_
    exact ev_leaf (fun h => ea_drop (l' := [some (.ref 272), none, some (.int (s84.1 + 1)), none, none]) ⟨Or.inr rfl, Or.inl rfl, Or.inr rfl, Or.inl rfl, Or.inl rfl, trivial⟩ (hC (s84.1 + 1, x166s) h))
set_option maxHeartbeats 300000 in
theorem lp_X12_laysWays_199 (G : ea_G) {res : ea_O}    {Ψ : ea_M → Prop} (hX : ∀ x199s : ea_M, Ψ x199s → ea_Ev G F_X12_laysWays res 227 [none, none, none, none, none] [] x199s 0 0) : ∀ (f : Nat) (s199 : Int32 × ea_M), ea_E G F_X12_laysWays res 199 [some (.ref 272), none, some (.int s199.1), none, none] [] s199.2 0 0 (ea_loop f_X12_laysWays_s199 f s199) Ψ := by
  refine ev_loop (G := G) (F := F_X12_laysWays) (res := res) (pc := 199) (st := []) (k := 0) (n := 0) (step := f_X12_laysWays_s199) (Ψ := Ψ) (fun (s199 : Int32 × ea_M) => [some (.ref 272), none, some (.int s199.1), none, none]) (fun (s199 : Int32 × ea_M) => s199.2) (fun s199 => ?_)
  have hC : ∀ s199 : Int32 × ea_M, (Sum.elim (fun s199 : Int32 × ea_M => ea_Ev G F_X12_laysWays res 199 [some (.ref 272), none, some (.int s199.1), none, none] [] s199.2 0 0) Ψ) (.inl s199) → ea_Ev G F_X12_laysWays res 199 [some (.ref 272), none, some (.int s199.1), none, none] [] s199.2 0 0 := fun _ h => h
  have hX : ∀ x199s : ea_M, (Sum.elim (fun s199 : Int32 × ea_M => ea_Ev G F_X12_laysWays res 199 [some (.ref 272), none, some (.int s199.1), none, none] [] s199.2 0 0) Ψ) (.inr x199s) → ea_Ev G F_X12_laysWays res 227 [none, none, none, none, none] [] x199s 0 0 := hX
  unfold f_X12_laysWays_s199
  refine ev_iload_n (ea_at dt_X12_laysWays 108 rfl) rfl ?_
  refine ev_sipush (ea_at dt_X12_laysWays 109 rfl) sp_208 ?_
  refine ev_icmp_ge (tgt := 227) (ea_at dt_X12_laysWays 110 rfl) rfl (fun _ => ?_) (fun _ => ?_)
  · exact ev_leaf (fun h => ea_drop (l' := [none, none, none, none, none]) ⟨Or.inl rfl, Or.inl rfl, Or.inl rfl, Or.inl rfl, Or.inl rfl, trivial⟩ (hX s199.2 h))
  · refine ev_aload_n (ea_at dt_X12_laysWays 111 rfl) rfl ?_
    refine ev_dup (ea_at dt_X12_laysWays 112 rfl) rfl ?_
    refine ev_getI (ea_at dt_X12_laysWays 113 rfl) fl_X12_334 sh_272 rfl ?_
    refine ev_i (fun x21 => ?_)
    refine ev_aload_n (ea_at dt_X12_laysWays 114 rfl) rfl ?_
    refine ev_getR (ea_at dt_X12_laysWays 115 rfl) fl_X12_42 sh_272 rfl ?_
    refine ev_iload_n (ea_at dt_X12_laysWays 116 rfl) rfl ?_
    refine ev_iaload (ea_at dt_X12_laysWays 117 rfl) sh_281 (by decide) ?_
    refine ev_i (fun x22 => ?_)
    refine ev_iadd (ea_at dt_X12_laysWays 118 rfl) ?_
    refine ev_putI (ea_at dt_X12_laysWays 119 rfl) fl_X12_334 fp_12_26 sh_272 rfl ?_
    refine ev_m (fun m23 => ?_)
    refine ev_iinc (ls' := [some (.ref 272), none, some (.int (s199.1 + 1)), none, none]) (ea_at dt_X12_laysWays 120 rfl) rfl (congrArg (fun z => _ + z) ic_1) (ea_lt rfl) rfl ?_
    refine ev_goto (tgt := 199) (ea_at dt_X12_laysWays 121 rfl) rfl ?_
    exact ev_leaf (fun h => ea_drop (l' := [some (.ref 272), none, some (.int (s199.1 + 1)), none, none]) ⟨Or.inr rfl, Or.inl rfl, Or.inr rfl, Or.inl rfl, Or.inl rfl, trivial⟩ (hC (s199.1 + 1, m23) h))
set_option maxHeartbeats 300000 in
theorem ok_X12_laysWays (G : ea_G) (p1 : Int32) (m : ea_M)  (rZ : Int32) (mZ : ea_M) (hZ : f_X12_laysWays p1 m = some (rZ, mZ)) : ea_Met G yX12_laysWays F_X12_laysWays [.ref 272, .int p1] m (0, rZ, mZ) := by
  refine ea_met (F := F_X12_laysWays) (by decide +kernel) rfl rfl (Nat.le_of_ble_eq_true rfl) (by simp only [List.mem_cons, List.not_mem_nil, or_false]; intro v hv; rcases hv with rfl | rfl <;> rfl) ((?_ : ea_E G F_X12_laysWays (0, rZ, mZ) 0 [some (.ref 272), some (.int p1), none, none, none] [] m 0 0 (f_X12_laysWays p1 m) (fun t => t = (rZ, mZ))) (rZ, mZ) hZ rfl)
  have hR : ∀ t : Int32 × ea_M, t = (rZ, mZ) → ((0, rZ, mZ) : ea_O) = (0, t) := fun t h => by rw [h]
  unfold f_X12_laysWays
  refine ev_aload_n (ea_at dt_X12_laysWays 0 rfl) rfl ?_
  refine ev_iload_n (ea_at dt_X12_laysWays 1 rfl) rfl ?_
  refine ev_putI (ea_at dt_X12_laysWays 2 rfl) fl_X12_268 fp_12_18 sh_272 rfl ?_
  refine ev_m (fun m1 => ?_)
  refine ev_aload_n (ea_at dt_X12_laysWays 3 rfl) rfl ?_
  refine ev_iconst (ea_at dt_X12_laysWays 4 rfl) ic_0 ?_
  refine ev_putI (ea_at dt_X12_laysWays 5 rfl) fl_X12_328 fp_12_25 sh_272 rfl ?_
  refine ev_m (fun m2 => ?_)
  refine ev_aload_n (ea_at dt_X12_laysWays 6 rfl) rfl ?_
  refine ev_iconst (ea_at dt_X12_laysWays 7 rfl) ic_0 ?_
  refine ev_putI (ea_at dt_X12_laysWays 8 rfl) fl_X12_334 fp_12_26 sh_272 rfl ?_
  refine ev_m (fun m3 => ?_)
  refine ev_iconst (ea_at dt_X12_laysWays 9 rfl) ic_0 ?_
  refine ev_istore_n (ls' := [some (.ref 272), some (.int p1), some (.int 0), none, none]) (ea_at dt_X12_laysWays 10 rfl) (ea_lt rfl) rfl ?_
  refine ev_drop (l' := [some (.ref 272), none, some (.int 0), none, none]) ⟨Or.inr rfl, Or.inl rfl, Or.inr rfl, Or.inl rfl, Or.inl rfl, trivial⟩ ?_
  refine ev_bind (lp_X12_laysWays_17 G   (fun x17s h => ?_) ea_fuel (0, m3))
  obtain ⟨t1, e1, q1⟩ := h
  refine (?_ : ea_E G F_X12_laysWays (0, rZ, mZ) 37 [some (.ref 272), none, none, none, none] [] x17s 0 0 _ (fun t => t = (rZ, mZ))) t1 e1 q1
  refine ev_iconst (ea_at dt_X12_laysWays 21 rfl) ic_0 ?_
  refine ev_istore_n (ls' := [some (.ref 272), none, some (.int 0), none, none]) (ea_at dt_X12_laysWays 22 rfl) (ea_lt rfl) rfl ?_
  refine ev_drop (l' := [some (.ref 272), none, some (.int 0), none, none]) ⟨Or.inr rfl, Or.inl rfl, Or.inr rfl, Or.inl rfl, Or.inl rfl, trivial⟩ ?_
  refine ev_bind (lp_X12_laysWays_39 G   (fun x39s h => ?_) ea_fuel (0, x17s))
  obtain ⟨t1, e1, q1⟩ := h
  refine (?_ : ea_E G F_X12_laysWays (0, rZ, mZ) 59 [some (.ref 272), none, none, none, none] [] x39s 0 0 _ (fun t => t = (rZ, mZ))) t1 e1 q1
  refine ev_aload_n (ea_at dt_X12_laysWays 33 rfl) rfl ?_
  refine ev_getR (ea_at dt_X12_laysWays 34 rfl) fl_X12_42 sh_272 rfl ?_
  refine ev_aload_n (ea_at dt_X12_laysWays 35 rfl) rfl ?_
  refine ev_getR (ea_at dt_X12_laysWays 36 rfl) fl_X12_13 sh_272 rfl ?_
  refine ev_bipush (ea_at dt_X12_laysWays 37 rfl) bp_8 ?_
  refine ev_ialoadC (j := 8) (ea_at dt_X12_laysWays 38 rfl) sh_273 (by decide) (by decide) (by decide) (by decide) ?_
  refine ev_i (fun x6 => ?_)
  refine ev_aload_n (ea_at dt_X12_laysWays 39 rfl) rfl ?_
  refine ev_getR (ea_at dt_X12_laysWays 40 rfl) fl_X12_13 sh_272 rfl ?_
  refine ev_bipush (ea_at dt_X12_laysWays 41 rfl) bp_7 ?_
  refine ev_ialoadC (j := 7) (ea_at dt_X12_laysWays 42 rfl) sh_273 (by decide) (by decide) (by decide) (by decide) ?_
  refine ev_i (fun x7 => ?_)
  refine ev_clI (F1 := F_X12_at) (fun rY mY hY => ea_runS (As := [.int x6, .int x7]) (ea_at dt_X12_laysWays 43 rfl) ml_X12_322 mv_X12_at (ok_X12_at G x6 x7 x39s  rY mY hY) rfl rfl (Nat.le_of_ble_eq_true rfl) rfl) rfl (fun r9 m8 => ?_)
  refine ev_iconst (ea_at dt_X12_laysWays 44 rfl) ic_1 ?_
  refine ev_iastore (ea_at dt_X12_laysWays 45 rfl) sh_281 (by decide) ?_
  refine ev_m (fun m10 => ?_)
  refine ev_iconst (ea_at dt_X12_laysWays 46 rfl) ic_0 ?_
  refine ev_istore_n (ls' := [some (.ref 272), none, some (.int 0), none, none]) (ea_at dt_X12_laysWays 47 rfl) (ea_lt rfl) rfl ?_
  refine ev_drop (l' := [some (.ref 272), none, some (.int 0), none, none]) ⟨Or.inr rfl, Or.inl rfl, Or.inr rfl, Or.inl rfl, Or.inl rfl, trivial⟩ ?_
  refine ev_bind (lp_X12_laysWays_84 G   (fun x84s h => ?_) ea_fuel (0, m10))
  obtain ⟨t1, e1, q1⟩ := h
  refine (?_ : ea_E G F_X12_laysWays (0, rZ, mZ) 197 [some (.ref 272), none, none, none, none] [] x84s 0 0 _ (fun t => t = (rZ, mZ))) t1 e1 q1
  refine ev_iconst (ea_at dt_X12_laysWays 106 rfl) ic_0 ?_
  refine ev_istore_n (ls' := [some (.ref 272), none, some (.int 0), none, none]) (ea_at dt_X12_laysWays 107 rfl) (ea_lt rfl) rfl ?_
  refine ev_drop (l' := [some (.ref 272), none, some (.int 0), none, none]) ⟨Or.inr rfl, Or.inl rfl, Or.inr rfl, Or.inl rfl, Or.inl rfl, trivial⟩ ?_
  refine ev_bind (lp_X12_laysWays_199 G   (fun x199s h => ?_) ea_fuel (0, x84s))
  obtain ⟨t1, e1, q1⟩ := h
  refine (?_ : ea_E G F_X12_laysWays (0, rZ, mZ) 227 [none, none, none, none, none] [] x199s 0 0 _ (fun t => t = (rZ, mZ))) t1 e1 q1
  exact ev_vret (ea_at dt_X12_laysWays 122 rfl) rfl ⟨by decide, by decide⟩ (fun h => ⟨0, hR _ h⟩)
def F_X12_landedAt : ea_F := (ea_rm 8 0 0, cX12_landedAt, RX12, some .int, 3, [], 0, 0)
def D_X12_landedAt : List (Nat × Instr × Nat) := [(0, .aload_n 0, 1), (1, .getfield 48, 3), (4, .bipush 16, 2), (6, .iload_n 1, 1), (7, .imul, 1), (8, .iload_n 2, 1), (9, .iadd, 1), (10, .iaload, 1), (11, .ireturn, 1)]
theorem dt_X12_landedAt : ∀ q ∈ D_X12_landedAt, decode cX12_landedAt q.1 = .ok q.2 := by decide +kernel
theorem mv_X12_landedAt : ea_MV yX12_landedAt (F_X12_landedAt) 2 := ⟨⟨List.mem_append_right _ (List.mem_of_getElem? (i := 13) (by decide +kernel)), List.mem_append_right _ (List.mem_of_getElem? (i := 1779) (by decide +kernel)), ⟨by decide, by decide⟩, by decide +kernel⟩, List.mem_append_right _ (List.mem_of_getElem? (i := 1778) (by decide +kernel)), List.mem_append_left _ (List.mem_of_getElem? (i := 88) (by decide +kernel))⟩
def f_X12_landedAt (p1 : Int32) (p2 : Int32) (m : ea_M) : Option (Int32 × ea_M) :=
  ea_bd ((16 * p1) + p2) fun x1 =>
  ea_g x1 144 (ea_bd (m 283 (Int32.toNatClampNeg x1)) fun x2 =>
  some (x2, m))
set_option maxHeartbeats 300000 in
theorem ok_X12_landedAt (G : ea_G) (p1 : Int32) (p2 : Int32) (m : ea_M)  (rZ : Int32) (mZ : ea_M) (hZ : f_X12_landedAt p1 p2 m = some (rZ, mZ)) : ea_Met G yX12_landedAt F_X12_landedAt [.ref 272, .int p1, .int p2] m (0, rZ, mZ) := by
  refine ea_met (F := F_X12_landedAt) (by decide +kernel) rfl rfl (Nat.le_of_ble_eq_true rfl) (by simp only [List.mem_cons, List.not_mem_nil, or_false]; intro v hv; rcases hv with rfl | rfl | rfl <;> rfl) ((?_ : ea_E G F_X12_landedAt (0, rZ, mZ) 0 [some (.ref 272), some (.int p1), some (.int p2)] [] m 0 0 (f_X12_landedAt p1 p2 m) (fun t => t = (rZ, mZ))) (rZ, mZ) hZ rfl)
  have hR : ∀ t : Int32 × ea_M, t = (rZ, mZ) → ((0, rZ, mZ) : ea_O) = (0, t) := fun t h => by rw [h]
  unfold f_X12_landedAt
  refine ev_aload_n (ea_at dt_X12_landedAt 0 rfl) rfl ?_
  refine ev_getR (ea_at dt_X12_landedAt 1 rfl) fl_X12_48 sh_272 rfl ?_
  refine ev_bipush (ea_at dt_X12_landedAt 2 rfl) bp_16 ?_
  refine ev_iload_n (ea_at dt_X12_landedAt 3 rfl) rfl ?_
  refine ev_imul (ea_at dt_X12_landedAt 4 rfl) ?_
  refine ev_iload_n (ea_at dt_X12_landedAt 5 rfl) rfl ?_
  refine ev_iadd (ea_at dt_X12_landedAt 6 rfl) ?_
  refine ev_i (fun x1 => ?_)
  refine ev_iaload (ea_at dt_X12_landedAt 7 rfl) sh_283 (by decide) ?_
  refine ev_i (fun x2 => ?_)
  exact ev_iret (ea_at dt_X12_landedAt 8 rfl) rfl ⟨by decide, by decide⟩ (fun h => hR _ h)
def F_X12_goodAt : ea_F := (ea_rm 9 0 0, cX12_goodAt, RX12, some .int, 4, [], 0, 0)
def D_X12_goodAt : List (Nat × Instr × Nat) := [(0, .iconst 0, 1), (1, .istore_n 2, 1), (2, .aload_n 0, 1), (3, .getfield 13, 3), (6, .bipush 9, 2), (8, .iaload, 1), (9, .istore_n 3, 1), (10, .iload_n 3, 1), (11, .aload_n 0, 1), (12, .getfield 13, 3), (15, .bipush 10, 2), (17, .iaload, 1), (18, .if_icmp .gt 18, 3), (21, .iload_n 2, 1), (22, .aload_n 0, 1), (23, .iload_n 1, 1), (24, .iload_n 3, 1), (25, .invokevirtual 341, 3), (28, .iadd, 1), (29, .istore_n 2, 1), (30, .iinc 3 1, 3), (33, .goto (-23), 3), (36, .iload_n 2, 1), (37, .ireturn, 1)]
theorem dt_X12_goodAt : ∀ q ∈ D_X12_goodAt, decode cX12_goodAt q.1 = .ok q.2 := by decide +kernel
theorem mv_X12_goodAt : ea_MV yX12_goodAt (F_X12_goodAt) 1 := ⟨⟨List.mem_append_right _ (List.mem_of_getElem? (i := 13) (by decide +kernel)), List.mem_append_right _ (List.mem_of_getElem? (i := 1775) (by decide +kernel)), ⟨by decide, by decide⟩, by decide +kernel⟩, List.mem_append_right _ (List.mem_of_getElem? (i := 1774) (by decide +kernel)), List.mem_append_left _ (List.mem_of_getElem? (i := 87) (by decide +kernel))⟩
def f_X12_goodAt_s10 (p1 : Int32)  (s10 : Int32 × Int32 × ea_M) : Option ((Int32 × Int32 × ea_M) ⊕ (Int32 × ea_M)) :=
  ea_bd (s10.2.2 273 10) fun x2 =>
  if x2 < s10.2.1 then
  some (.inr (s10.1, s10.2.2))
  else
  ea_cl (f_X12_landedAt p1 s10.2.1 s10.2.2) fun r4 m3 =>
  ea_bd (s10.1 + r4) fun x5 =>
  some (.inl (x5, s10.2.1 + 1, m3))
def f_X12_goodAt (p1 : Int32) (m : ea_M) : Option (Int32 × ea_M) :=
  ea_bd (m 273 9) fun x1 =>
  (ea_loop (f_X12_goodAt_s10 p1) ea_fuel (0, x1, m)).bind (fun x10s =>
  some (x10s.1, x10s.2))
set_option maxHeartbeats 300000 in
theorem lp_X12_goodAt_10 (G : ea_G) {res : ea_O}  (p1 : Int32)  {Ψ : (Int32 × ea_M) → Prop} (hX : ∀ x10s : Int32 × ea_M, Ψ x10s → ea_Ev G F_X12_goodAt res 36 [none, none, some (.int x10s.1), none] [] x10s.2 0 0) : ∀ (f : Nat) (s10 : Int32 × Int32 × ea_M), ea_E G F_X12_goodAt res 10 [some (.ref 272), some (.int p1), some (.int s10.1), some (.int s10.2.1)] [] s10.2.2 0 0 (ea_loop (f_X12_goodAt_s10 p1) f s10) Ψ := by
  refine ev_loop (G := G) (F := F_X12_goodAt) (res := res) (pc := 10) (st := []) (k := 0) (n := 0) (step := (f_X12_goodAt_s10 p1)) (Ψ := Ψ) (fun (s10 : Int32 × Int32 × ea_M) => [some (.ref 272), some (.int p1), some (.int s10.1), some (.int s10.2.1)]) (fun (s10 : Int32 × Int32 × ea_M) => s10.2.2) (fun s10 => ?_)
  have hC : ∀ s10 : Int32 × Int32 × ea_M, (Sum.elim (fun s10 : Int32 × Int32 × ea_M => ea_Ev G F_X12_goodAt res 10 [some (.ref 272), some (.int p1), some (.int s10.1), some (.int s10.2.1)] [] s10.2.2 0 0) Ψ) (.inl s10) → ea_Ev G F_X12_goodAt res 10 [some (.ref 272), some (.int p1), some (.int s10.1), some (.int s10.2.1)] [] s10.2.2 0 0 := fun _ h => h
  have hX : ∀ x10s : Int32 × ea_M, (Sum.elim (fun s10 : Int32 × Int32 × ea_M => ea_Ev G F_X12_goodAt res 10 [some (.ref 272), some (.int p1), some (.int s10.1), some (.int s10.2.1)] [] s10.2.2 0 0) Ψ) (.inr x10s) → ea_Ev G F_X12_goodAt res 36 [none, none, some (.int x10s.1), none] [] x10s.2 0 0 := hX
  unfold f_X12_goodAt_s10
  refine ev_iload_n (ea_at dt_X12_goodAt 7 rfl) rfl ?_
  refine ev_aload_n (ea_at dt_X12_goodAt 8 rfl) rfl ?_
  refine ev_getR (ea_at dt_X12_goodAt 9 rfl) fl_X12_13 sh_272 rfl ?_
  refine ev_bipush (ea_at dt_X12_goodAt 10 rfl) bp_10 ?_
  refine ev_ialoadC (j := 10) (ea_at dt_X12_goodAt 11 rfl) sh_273 (by decide) (by decide) (by decide) (by decide) ?_
  refine ev_i (fun x2 => ?_)
  refine ev_icmp_gt (tgt := 36) (ea_at dt_X12_goodAt 12 rfl) rfl (fun _ => ?_) (fun _ => ?_)
  · exact ev_leaf (fun h => ea_drop (l' := [none, none, some (.int s10.1), none]) ⟨Or.inl rfl, Or.inl rfl, Or.inr rfl, Or.inl rfl, trivial⟩ (hX (s10.1, s10.2.2) h))
  · refine ev_iload_n (ea_at dt_X12_goodAt 13 rfl) rfl ?_
    refine ev_aload_n (ea_at dt_X12_goodAt 14 rfl) rfl ?_
    refine ev_iload_n (ea_at dt_X12_goodAt 15 rfl) rfl ?_
    refine ev_iload_n (ea_at dt_X12_goodAt 16 rfl) rfl ?_
    refine ev_clI (F1 := F_X12_landedAt) (fun rY mY hY => ea_runV (As := [.int p1, .int s10.2.1]) (ea_at dt_X12_goodAt 17 rfl) ml_X12_341 mv_X12_landedAt (ok_X12_landedAt G p1 s10.2.1 s10.2.2  rY mY hY) sh_272 rfl rfl rfl (Nat.le_of_ble_eq_true rfl) rfl) rfl (fun r4 m3 => ?_)
    refine ev_iadd (ea_at dt_X12_goodAt 18 rfl) ?_
    refine ev_i (fun x5 => ?_)
    refine ev_istore_n (ls' := [some (.ref 272), some (.int p1), some (.int x5), some (.int s10.2.1)]) (ea_at dt_X12_goodAt 19 rfl) (ea_lt rfl) rfl ?_
    refine ev_iinc (ls' := [some (.ref 272), some (.int p1), some (.int x5), some (.int (s10.2.1 + 1))]) (ea_at dt_X12_goodAt 20 rfl) rfl (congrArg (fun z => _ + z) ic_1) (ea_lt rfl) rfl ?_
    refine ev_goto (tgt := 10) (ea_at dt_X12_goodAt 21 rfl) rfl ?_
    exact ev_leaf (fun h => ea_drop (l' := [some (.ref 272), some (.int p1), some (.int x5), some (.int (s10.2.1 + 1))]) ⟨Or.inr rfl, Or.inr rfl, Or.inr rfl, Or.inr rfl, trivial⟩ (hC (x5, s10.2.1 + 1, m3) h))
set_option maxHeartbeats 300000 in
theorem ok_X12_goodAt (G : ea_G) (p1 : Int32) (m : ea_M)  (rZ : Int32) (mZ : ea_M) (hZ : f_X12_goodAt p1 m = some (rZ, mZ)) : ea_Met G yX12_goodAt F_X12_goodAt [.ref 272, .int p1] m (0, rZ, mZ) := by
  refine ea_met (F := F_X12_goodAt) (by decide +kernel) rfl rfl (Nat.le_of_ble_eq_true rfl) (by simp only [List.mem_cons, List.not_mem_nil, or_false]; intro v hv; rcases hv with rfl | rfl <;> rfl) ((?_ : ea_E G F_X12_goodAt (0, rZ, mZ) 0 [some (.ref 272), some (.int p1), none, none] [] m 0 0 (f_X12_goodAt p1 m) (fun t => t = (rZ, mZ))) (rZ, mZ) hZ rfl)
  have hR : ∀ t : Int32 × ea_M, t = (rZ, mZ) → ((0, rZ, mZ) : ea_O) = (0, t) := fun t h => by rw [h]
  unfold f_X12_goodAt
  refine ev_iconst (ea_at dt_X12_goodAt 0 rfl) ic_0 ?_
  refine ev_istore_n (ls' := [some (.ref 272), some (.int p1), some (.int 0), none]) (ea_at dt_X12_goodAt 1 rfl) (ea_lt rfl) rfl ?_
  refine ev_aload_n (ea_at dt_X12_goodAt 2 rfl) rfl ?_
  refine ev_getR (ea_at dt_X12_goodAt 3 rfl) fl_X12_13 sh_272 rfl ?_
  refine ev_bipush (ea_at dt_X12_goodAt 4 rfl) bp_9 ?_
  refine ev_ialoadC (j := 9) (ea_at dt_X12_goodAt 5 rfl) sh_273 (by decide) (by decide) (by decide) (by decide) ?_
  refine ev_i (fun x1 => ?_)
  refine ev_istore_n (ls' := [some (.ref 272), some (.int p1), some (.int 0), some (.int x1)]) (ea_at dt_X12_goodAt 6 rfl) (ea_lt rfl) rfl ?_
  refine ev_drop (l' := [some (.ref 272), some (.int p1), some (.int 0), some (.int x1)]) ⟨Or.inr rfl, Or.inr rfl, Or.inr rfl, Or.inr rfl, trivial⟩ ?_
  refine ev_bind (lp_X12_goodAt_10 G p1   (fun x10s h => ?_) ea_fuel (0, x1, m))
  obtain ⟨t1, e1, q1⟩ := h
  refine (?_ : ea_E G F_X12_goodAt (0, rZ, mZ) 36 [none, none, some (.int x10s.1), none] [] x10s.2 0 0 _ (fun t => t = (rZ, mZ))) t1 e1 q1
  refine ev_iload_n (ea_at dt_X12_goodAt 22 rfl) rfl ?_
  exact ev_iret (ea_at dt_X12_goodAt 23 rfl) rfl ⟨by decide, by decide⟩ (fun h => hR _ h)
def F_X12_goodAll : ea_F := (ea_rm 10 0 0, cX12_goodAll, RX12, some .int, 3, [], 0, 0)
def D_X12_goodAll : List (Nat × Instr × Nat) := [(0, .iconst 0, 1), (1, .istore_n 1, 1), (2, .iconst 1, 1), (3, .istore_n 2, 1), (4, .iload_n 2, 1), (5, .bipush 8, 2), (7, .if_icmp .gt 17, 3), (10, .iload_n 1, 1), (11, .aload_n 0, 1), (12, .iload_n 2, 1), (13, .invokevirtual 344, 3), (16, .iadd, 1), (17, .istore_n 1, 1), (18, .iinc 2 1, 3), (21, .goto (-17), 3), (24, .iload_n 1, 1), (25, .ireturn, 1)]
theorem dt_X12_goodAll : ∀ q ∈ D_X12_goodAll, decode cX12_goodAll q.1 = .ok q.2 := by decide +kernel
theorem mv_X12_goodAll : ea_MV yX12_goodAll (F_X12_goodAll) 0 := ⟨⟨List.mem_append_right _ (List.mem_of_getElem? (i := 13) (by decide +kernel)), List.mem_append_right _ (List.mem_of_getElem? (i := 1771) (by decide +kernel)), ⟨by decide, by decide⟩, by decide +kernel⟩, List.mem_append_right _ (List.mem_of_getElem? (i := 1770) (by decide +kernel)), List.mem_append_left _ (List.mem_of_getElem? (i := 86) (by decide +kernel))⟩
def f_X12_goodAll_s4  (s4 : Int32 × Int32 × ea_M) : Option ((Int32 × Int32 × ea_M) ⊕ (Int32 × ea_M)) :=
  if 8 < s4.2.1 then
  some (.inr (s4.1, s4.2.2))
  else
  ea_cl (f_X12_goodAt s4.2.1 s4.2.2) fun r2 m1 =>
  ea_bd (s4.1 + r2) fun x3 =>
  some (.inl (x3, s4.2.1 + 1, m1))
def f_X12_goodAll (m : ea_M) : Option (Int32 × ea_M) :=
  (ea_loop f_X12_goodAll_s4 ea_fuel (0, 1, m)).bind (fun x4s =>
  some (x4s.1, x4s.2))
set_option maxHeartbeats 300000 in
theorem lp_X12_goodAll_4 (G : ea_G) {res : ea_O}    {Ψ : (Int32 × ea_M) → Prop} (hX : ∀ x4s : Int32 × ea_M, Ψ x4s → ea_Ev G F_X12_goodAll res 24 [none, some (.int x4s.1), none] [] x4s.2 0 0) : ∀ (f : Nat) (s4 : Int32 × Int32 × ea_M), ea_E G F_X12_goodAll res 4 [some (.ref 272), some (.int s4.1), some (.int s4.2.1)] [] s4.2.2 0 0 (ea_loop f_X12_goodAll_s4 f s4) Ψ := by
  refine ev_loop (G := G) (F := F_X12_goodAll) (res := res) (pc := 4) (st := []) (k := 0) (n := 0) (step := f_X12_goodAll_s4) (Ψ := Ψ) (fun (s4 : Int32 × Int32 × ea_M) => [some (.ref 272), some (.int s4.1), some (.int s4.2.1)]) (fun (s4 : Int32 × Int32 × ea_M) => s4.2.2) (fun s4 => ?_)
  have hC : ∀ s4 : Int32 × Int32 × ea_M, (Sum.elim (fun s4 : Int32 × Int32 × ea_M => ea_Ev G F_X12_goodAll res 4 [some (.ref 272), some (.int s4.1), some (.int s4.2.1)] [] s4.2.2 0 0) Ψ) (.inl s4) → ea_Ev G F_X12_goodAll res 4 [some (.ref 272), some (.int s4.1), some (.int s4.2.1)] [] s4.2.2 0 0 := fun _ h => h
  have hX : ∀ x4s : Int32 × ea_M, (Sum.elim (fun s4 : Int32 × Int32 × ea_M => ea_Ev G F_X12_goodAll res 4 [some (.ref 272), some (.int s4.1), some (.int s4.2.1)] [] s4.2.2 0 0) Ψ) (.inr x4s) → ea_Ev G F_X12_goodAll res 24 [none, some (.int x4s.1), none] [] x4s.2 0 0 := hX
  unfold f_X12_goodAll_s4
  refine ev_iload_n (ea_at dt_X12_goodAll 4 rfl) rfl ?_
  refine ev_bipush (ea_at dt_X12_goodAll 5 rfl) bp_8 ?_
  refine ev_icmp_gt (tgt := 24) (ea_at dt_X12_goodAll 6 rfl) rfl (fun _ => ?_) (fun _ => ?_)
  · exact ev_leaf (fun h => ea_drop (l' := [none, some (.int s4.1), none]) ⟨Or.inl rfl, Or.inr rfl, Or.inl rfl, trivial⟩ (hX (s4.1, s4.2.2) h))
  · refine ev_iload_n (ea_at dt_X12_goodAll 7 rfl) rfl ?_
    refine ev_aload_n (ea_at dt_X12_goodAll 8 rfl) rfl ?_
    refine ev_iload_n (ea_at dt_X12_goodAll 9 rfl) rfl ?_
    refine ev_clI (F1 := F_X12_goodAt) (fun rY mY hY => ea_runV (As := [.int s4.2.1]) (ea_at dt_X12_goodAll 10 rfl) ml_X12_344 mv_X12_goodAt (ok_X12_goodAt G s4.2.1 s4.2.2  rY mY hY) sh_272 rfl rfl rfl (Nat.le_of_ble_eq_true rfl) rfl) rfl (fun r2 m1 => ?_)
    refine ev_iadd (ea_at dt_X12_goodAll 11 rfl) ?_
    refine ev_i (fun x3 => ?_)
    refine ev_istore_n (ls' := [some (.ref 272), some (.int x3), some (.int s4.2.1)]) (ea_at dt_X12_goodAll 12 rfl) (ea_lt rfl) rfl ?_
    refine ev_iinc (ls' := [some (.ref 272), some (.int x3), some (.int (s4.2.1 + 1))]) (ea_at dt_X12_goodAll 13 rfl) rfl (congrArg (fun z => _ + z) ic_1) (ea_lt rfl) rfl ?_
    refine ev_goto (tgt := 4) (ea_at dt_X12_goodAll 14 rfl) rfl ?_
    exact ev_leaf (fun h => ea_drop (l' := [some (.ref 272), some (.int x3), some (.int (s4.2.1 + 1))]) ⟨Or.inr rfl, Or.inr rfl, Or.inr rfl, trivial⟩ (hC (x3, s4.2.1 + 1, m1) h))
set_option maxHeartbeats 300000 in
theorem ok_X12_goodAll (G : ea_G) (m : ea_M)  (rZ : Int32) (mZ : ea_M) (hZ : f_X12_goodAll m = some (rZ, mZ)) : ea_Met G yX12_goodAll F_X12_goodAll [.ref 272] m (0, rZ, mZ) := by
  refine ea_met (F := F_X12_goodAll) (by decide +kernel) rfl rfl (Nat.le_of_ble_eq_true rfl) (by simp only [List.mem_cons, List.not_mem_nil, or_false]; intro v hv; rcases hv with rfl <;> rfl) ((?_ : ea_E G F_X12_goodAll (0, rZ, mZ) 0 [some (.ref 272), none, none] [] m 0 0 (f_X12_goodAll m) (fun t => t = (rZ, mZ))) (rZ, mZ) hZ rfl)
  have hR : ∀ t : Int32 × ea_M, t = (rZ, mZ) → ((0, rZ, mZ) : ea_O) = (0, t) := fun t h => by rw [h]
  unfold f_X12_goodAll
  refine ev_iconst (ea_at dt_X12_goodAll 0 rfl) ic_0 ?_
  refine ev_istore_n (ls' := [some (.ref 272), some (.int 0), none]) (ea_at dt_X12_goodAll 1 rfl) (ea_lt rfl) rfl ?_
  refine ev_iconst (ea_at dt_X12_goodAll 2 rfl) ic_1 ?_
  refine ev_istore_n (ls' := [some (.ref 272), some (.int 0), some (.int 1)]) (ea_at dt_X12_goodAll 3 rfl) (ea_lt rfl) rfl ?_
  refine ev_drop (l' := [some (.ref 272), some (.int 0), some (.int 1)]) ⟨Or.inr rfl, Or.inr rfl, Or.inr rfl, trivial⟩ ?_
  refine ev_bind (lp_X12_goodAll_4 G   (fun x4s h => ?_) ea_fuel (0, 1, m))
  obtain ⟨t1, e1, q1⟩ := h
  refine (?_ : ea_E G F_X12_goodAll (0, rZ, mZ) 24 [none, some (.int x4s.1), none] [] x4s.2 0 0 _ (fun t => t = (rZ, mZ))) t1 e1 q1
  refine ev_iload_n (ea_at dt_X12_goodAll 15 rfl) rfl ?_
  exact ev_iret (ea_at dt_X12_goodAll 16 rfl) rfl ⟨by decide, by decide⟩ (fun h => hR _ h)
def F_X12_ways : ea_F := (ea_rm 16 0 0, cX12_ways, RX12, some .int, 4, [], 0, 0)
def D_X12_ways : List (Nat × Instr × Nat) := [(0, .aload_n 0, 1), (1, .iconst 0, 1), (2, .putfield 3, 3), (5, .aload_n 0, 1), (6, .aload_n 0, 1), (7, .iload_n 1, 1), (8, .invokevirtual 303, 3), (11, .iconst 1, 1), (12, .invokevirtual 265, 3), (15, .ifCond .ne 25, 3), (18, .aload_n 0, 1), (19, .iload_n 2, 1), (20, .iconst 0, 1), (21, .iconst 3, 1), (22, .invokestatic 78, 3), (25, .ifCond .ne 7, 3), (28, .iconst 1, 1), (29, .goto 4, 3), (32, .iconst 0, 1), (33, .iconst 2, 1), (34, .invokevirtual 265, 3), (37, .ifCond .eq 5, 3), (40, .iconst 0, 1), (41, .ireturn, 1), (42, .aload_n 0, 1), (43, .iload_n 1, 1), (44, .invokevirtual 347, 3), (47, .aload_n 0, 1), (48, .invokevirtual 351, 3), (51, .istore_n 3, 1), (52, .iload_n 2, 1), (53, .ifCond .ne 7, 3), (56, .iload_n 3, 1), (57, .goto 42, 3), (60, .iload_n 2, 1), (61, .iconst 1, 1), (62, .if_icmp .ne 10, 3), (65, .aload_n 0, 1), (66, .getfield 328, 3), (69, .goto 30, 3), (72, .iload_n 2, 1), (73, .iconst 2, 1), (74, .if_icmp .ne 10, 3), (77, .aload_n 0, 1), (78, .getfield 334, 3), (81, .goto 18, 3), (84, .sipush 6561, 3), (87, .iload_n 3, 1), (88, .isub, 1), (89, .aload_n 0, 1), (90, .getfield 328, 3), (93, .isub, 1), (94, .aload_n 0, 1), (95, .getfield 334, 3), (98, .isub, 1), (99, .ireturn, 1)]
theorem dt_X12_ways : ∀ q ∈ D_X12_ways, decode cX12_ways q.1 = .ok q.2 := by decide +kernel
theorem mv_X12_ways : ea_MV yX12_ways (F_X12_ways) 2 := ⟨⟨List.mem_append_right _ (List.mem_of_getElem? (i := 13) (by decide +kernel)), List.mem_append_right _ (List.mem_of_getElem? (i := 1749) (by decide +kernel)), ⟨by decide, by decide⟩, by decide +kernel⟩, List.mem_append_right _ (List.mem_of_getElem? (i := 1747) (by decide +kernel)), List.mem_append_right _ (List.mem_of_getElem? (i := 1748) (by decide +kernel))⟩
def f_X12_ways_j33 (p1 : Int32) (p2 : Int32) (x8 : Int32) (m9 : ea_M) : Option (Int32 × ea_M) :=
  ea_cl (f_X12_throwsIf x8 2 m9) fun r11 m10 =>
  if r11 = 0 then
  ea_cl (f_X12_laysWays p1 m10) fun r13 m12 =>
  ea_cl (f_X12_goodAll m12) fun r15 m14 =>
  if p2 = 0 then
  some (r15, m14)
  else
  if p2 = 1 then
  ea_bd (m14 272 25) fun x16 =>
  some (x16, m14)
  else
  if p2 = 2 then
  ea_bd (m14 272 26) fun x17 =>
  some (x17, m14)
  else
  ea_bd (m14 272 25) fun x18 =>
  ea_bd ((6561 - r15) - x18) fun x19 =>
  ea_bd (m14 272 26) fun x20 =>
  some (x19 - x20, m14)
  else
  some (0, m10)
def f_X12_ways (p1 : Int32) (p2 : Int32) (m : ea_M) : Option (Int32 × ea_M) :=
  ea_bd (ea_st m 272 0 0) fun m1 =>
  ea_cl (f_X12_noBird p1 m1) fun r3 m2 =>
  ea_cl (f_X12_throwsIf r3 1 m2) fun r5 m4 =>
  if r5 = 0 then
  ea_cl (f_X12_in p2 0 3 m4) fun r7 m6 =>
  if r7 = 0 then
  f_X12_ways_j33 p1 p2 1 m6
  else
  f_X12_ways_j33 p1 p2 0 m6
  else
  some (0, m4)
set_option maxHeartbeats 300000 in
theorem jn_X12_ways_33 (G : ea_G) {res : ea_O}  (p1 : Int32) (p2 : Int32) (x8 : Int32) (m9 : ea_M)  {Φ : (Int32 × ea_M) → Prop} (hR : ∀ t : Int32 × ea_M, Φ t → res = (0, t)) : ea_E G F_X12_ways res 33 [some (.ref 272), some (.int p1), some (.int p2), none] [.int x8, .ref 272] m9 0 0 (f_X12_ways_j33 p1 p2 x8 m9) Φ := by
  unfold f_X12_ways_j33
  refine ev_iconst (ea_at dt_X12_ways 19 rfl) ic_2 ?_
  refine ev_clI (F1 := F_X12_throwsIf) (fun rY mY hY => ea_runV (As := [.int x8, .int 2]) (ea_at dt_X12_ways 20 rfl) ml_X12_265 mv_X12_throwsIf (ok_X12_throwsIf G x8 2 m9  rY mY hY) sh_272 rfl rfl rfl (Nat.le_of_ble_eq_true rfl) rfl) rfl (fun r11 m10 => ?_)
  refine ev_if_eq (tgt := 42) (ea_at dt_X12_ways 21 rfl) rfl (fun _ => ?_) (fun _ => ?_)
  · refine ev_aload_n (ea_at dt_X12_ways 24 rfl) rfl ?_
    refine ev_iload_n (ea_at dt_X12_ways 25 rfl) rfl ?_
    refine ev_clU (F1 := F_X12_laysWays) (fun rY mY hY => ea_runV (As := [.int p1]) (ea_at dt_X12_ways 26 rfl) ml_X12_347 mv_X12_laysWays (ok_X12_laysWays G p1 m10  rY mY hY) sh_272 rfl rfl rfl (Nat.le_of_ble_eq_true rfl) rfl) rfl (fun r13 m12 => ?_)
    refine ev_aload_n (ea_at dt_X12_ways 27 rfl) rfl ?_
    refine ev_clI (F1 := F_X12_goodAll) (fun rY mY hY => ea_runV (As := []) (ea_at dt_X12_ways 28 rfl) ml_X12_351 mv_X12_goodAll (ok_X12_goodAll G m12  rY mY hY) sh_272 rfl rfl rfl (Nat.le_of_ble_eq_true rfl) rfl) rfl (fun r15 m14 => ?_)
    refine ev_istore_n (ls' := [some (.ref 272), some (.int p1), some (.int p2), some (.int r15)]) (ea_at dt_X12_ways 29 rfl) (ea_lt rfl) rfl ?_
    refine ev_iload_n (ea_at dt_X12_ways 30 rfl) rfl ?_
    refine ev_if_ne (tgt := 60) (ea_at dt_X12_ways 31 rfl) rfl (fun _ => ?_) (fun _ => ?_)
    · refine ev_iload_n (ea_at dt_X12_ways 32 rfl) rfl ?_
      refine ev_goto (tgt := 99) (ea_at dt_X12_ways 33 rfl) rfl ?_
      exact ev_iret (ea_at dt_X12_ways 55 rfl) rfl ⟨by decide, by decide⟩ (fun h => hR _ h)
    · refine ev_iload_n (ea_at dt_X12_ways 34 rfl) rfl ?_
      refine ev_iconst (ea_at dt_X12_ways 35 rfl) ic_1 ?_
      refine ev_icmp_ne (tgt := 72) (ea_at dt_X12_ways 36 rfl) rfl (fun _ => ?_) (fun _ => ?_)
      · refine ev_aload_n (ea_at dt_X12_ways 37 rfl) rfl ?_
        refine ev_getI (ea_at dt_X12_ways 38 rfl) fl_X12_328 sh_272 rfl ?_
        refine ev_i (fun x16 => ?_)
        refine ev_goto (tgt := 99) (ea_at dt_X12_ways 39 rfl) rfl ?_
        exact ev_iret (ea_at dt_X12_ways 55 rfl) rfl ⟨by decide, by decide⟩ (fun h => hR _ h)
      · refine ev_iload_n (ea_at dt_X12_ways 40 rfl) rfl ?_
        refine ev_iconst (ea_at dt_X12_ways 41 rfl) ic_2 ?_
        refine ev_icmp_ne (tgt := 84) (ea_at dt_X12_ways 42 rfl) rfl (fun _ => ?_) (fun _ => ?_)
        · refine ev_aload_n (ea_at dt_X12_ways 43 rfl) rfl ?_
          refine ev_getI (ea_at dt_X12_ways 44 rfl) fl_X12_334 sh_272 rfl ?_
          refine ev_i (fun x17 => ?_)
          refine ev_goto (tgt := 99) (ea_at dt_X12_ways 45 rfl) rfl ?_
          exact ev_iret (ea_at dt_X12_ways 55 rfl) rfl ⟨by decide, by decide⟩ (fun h => hR _ h)
        · refine ev_sipush (ea_at dt_X12_ways 46 rfl) sp_6561 ?_
          refine ev_iload_n (ea_at dt_X12_ways 47 rfl) rfl ?_
          refine ev_isub (ea_at dt_X12_ways 48 rfl) ?_
          refine ev_aload_n (ea_at dt_X12_ways 49 rfl) rfl ?_
          refine ev_getI (ea_at dt_X12_ways 50 rfl) fl_X12_328 sh_272 rfl ?_
          refine ev_i (fun x18 => ?_)
          refine ev_isub (ea_at dt_X12_ways 51 rfl) ?_
          refine ev_i (fun x19 => ?_)
          refine ev_aload_n (ea_at dt_X12_ways 52 rfl) rfl ?_
          refine ev_getI (ea_at dt_X12_ways 53 rfl) fl_X12_334 sh_272 rfl ?_
          refine ev_i (fun x20 => ?_)
          refine ev_isub (ea_at dt_X12_ways 54 rfl) ?_
          exact ev_iret (ea_at dt_X12_ways 55 rfl) rfl ⟨by decide, by decide⟩ (fun h => hR _ h)
  · refine ev_iconst (ea_at dt_X12_ways 22 rfl) ic_0 ?_
    exact ev_iret (ea_at dt_X12_ways 23 rfl) rfl ⟨by decide, by decide⟩ (fun h => hR _ h)
set_option maxHeartbeats 300000 in
theorem ok_X12_ways (G : ea_G) (p1 : Int32) (p2 : Int32) (m : ea_M)  (rZ : Int32) (mZ : ea_M) (hZ : f_X12_ways p1 p2 m = some (rZ, mZ)) : ea_Met G yX12_ways F_X12_ways [.ref 272, .int p1, .int p2] m (0, rZ, mZ) := by
  refine ea_met (F := F_X12_ways) (by decide +kernel) rfl rfl (Nat.le_of_ble_eq_true rfl) (by simp only [List.mem_cons, List.not_mem_nil, or_false]; intro v hv; rcases hv with rfl | rfl | rfl <;> rfl) ((?_ : ea_E G F_X12_ways (0, rZ, mZ) 0 [some (.ref 272), some (.int p1), some (.int p2), none] [] m 0 0 (f_X12_ways p1 p2 m) (fun t => t = (rZ, mZ))) (rZ, mZ) hZ rfl)
  have hR : ∀ t : Int32 × ea_M, t = (rZ, mZ) → ((0, rZ, mZ) : ea_O) = (0, t) := fun t h => by rw [h]
  unfold f_X12_ways
  refine ev_aload_n (ea_at dt_X12_ways 0 rfl) rfl ?_
  refine ev_iconst (ea_at dt_X12_ways 1 rfl) ic_0 ?_
  refine ev_putI (ea_at dt_X12_ways 2 rfl) fl_X12_3 fp_12_0 sh_272 rfl ?_
  refine ev_m (fun m1 => ?_)
  refine ev_aload_n (ea_at dt_X12_ways 3 rfl) rfl ?_
  refine ev_aload_n (ea_at dt_X12_ways 4 rfl) rfl ?_
  refine ev_iload_n (ea_at dt_X12_ways 5 rfl) rfl ?_
  refine ev_clI (F1 := F_X12_noBird) (fun rY mY hY => ea_runV (As := [.int p1]) (ea_at dt_X12_ways 6 rfl) ml_X12_303 mv_X12_noBird (ok_X12_noBird G p1 m1  rY mY hY) sh_272 rfl rfl rfl (Nat.le_of_ble_eq_true rfl) rfl) rfl (fun r3 m2 => ?_)
  refine ev_iconst (ea_at dt_X12_ways 7 rfl) ic_1 ?_
  refine ev_clI (F1 := F_X12_throwsIf) (fun rY mY hY => ea_runV (As := [.int r3, .int 1]) (ea_at dt_X12_ways 8 rfl) ml_X12_265 mv_X12_throwsIf (ok_X12_throwsIf G r3 1 m2  rY mY hY) sh_272 rfl rfl rfl (Nat.le_of_ble_eq_true rfl) rfl) rfl (fun r5 m4 => ?_)
  refine ev_if_ne (tgt := 40) (ea_at dt_X12_ways 9 rfl) rfl (fun _ => ?_) (fun _ => ?_)
  · refine ev_aload_n (ea_at dt_X12_ways 10 rfl) rfl ?_
    refine ev_iload_n (ea_at dt_X12_ways 11 rfl) rfl ?_
    refine ev_iconst (ea_at dt_X12_ways 12 rfl) ic_0 ?_
    refine ev_iconst (ea_at dt_X12_ways 13 rfl) ic_3 ?_
    refine ev_clI (F1 := F_X12_in) (fun rY mY hY => ea_runS (As := [.int p2, .int 0, .int 3]) (ea_at dt_X12_ways 14 rfl) ml_X12_78 mv_X12_in (ok_X12_in G p2 0 3 m4  rY mY hY) rfl rfl (Nat.le_of_ble_eq_true rfl) rfl) rfl (fun r7 m6 => ?_)
    refine ev_if_ne (tgt := 32) (ea_at dt_X12_ways 15 rfl) rfl (fun _ => ?_) (fun _ => ?_)
    · refine ev_iconst (ea_at dt_X12_ways 16 rfl) ic_1 ?_
      refine ev_goto (tgt := 33) (ea_at dt_X12_ways 17 rfl) rfl ?_
      exact ev_drop (l' := [some (.ref 272), some (.int p1), some (.int p2), none]) ⟨Or.inr rfl, Or.inr rfl, Or.inr rfl, Or.inl rfl, trivial⟩ (jn_X12_ways_33 G p1 p2 1 m6  hR)
    · refine ev_iconst (ea_at dt_X12_ways 18 rfl) ic_0 ?_
      exact ev_drop (l' := [some (.ref 272), some (.int p1), some (.int p2), none]) ⟨Or.inr rfl, Or.inr rfl, Or.inr rfl, Or.inl rfl, trivial⟩ (jn_X12_ways_33 G p1 p2 0 m6  hR)
  · refine ev_iconst (ea_at dt_X12_ways 22 rfl) ic_0 ?_
    exact ev_iret (ea_at dt_X12_ways 23 rfl) rfl ⟨by decide, by decide⟩ (fun h => hR _ h)
def F_X12_lands : ea_F := (ea_rm 16 0 0, cX12_lands, RX12, some .int, 5, [], 0, 0)
def D_X12_lands : List (Nat × Instr × Nat) := [(0, .aload_n 0, 1), (1, .iconst 0, 1), (2, .putfield 3, 3), (5, .aload_n 0, 1), (6, .aload_n 0, 1), (7, .iload_n 1, 1), (8, .invokevirtual 303, 3), (11, .ifCond .ne 10, 3), (14, .iload_n 2, 1), (15, .invokestatic 309, 3), (18, .ifCond .eq 7, 3), (21, .iconst 1, 1), (22, .goto 4, 3), (25, .iconst 0, 1), (26, .iconst 1, 1), (27, .invokevirtual 265, 3), (30, .ifCond .eq 5, 3), (33, .iconst 0, 1), (34, .ireturn, 1), (35, .aload_n 0, 1), (36, .iload_n 1, 1), (37, .invokevirtual 347, 3), (40, .iconst 0, 1), (41, .istore_n 3, 1), (42, .iconst 1, 1), (43, .istore 4, 2), (45, .iload 4, 2), (47, .bipush 8, 2), (49, .if_icmp .gt 19, 3), (52, .iload_n 3, 1), (53, .aload_n 0, 1), (54, .iload 4, 2), (56, .iload_n 2, 1), (57, .invokevirtual 341, 3), (60, .iadd, 1), (61, .istore_n 3, 1), (62, .iinc 4 1, 3), (65, .goto (-20), 3), (68, .iload_n 3, 1), (69, .ireturn, 1)]
theorem dt_X12_lands : ∀ q ∈ D_X12_lands, decode cX12_lands q.1 = .ok q.2 := by decide +kernel
theorem mv_X12_lands : ea_MV yX12_lands (F_X12_lands) 2 := ⟨⟨List.mem_append_right _ (List.mem_of_getElem? (i := 13) (by decide +kernel)), List.mem_append_right _ (List.mem_of_getElem? (i := 1783) (by decide +kernel)), ⟨by decide, by decide⟩, by decide +kernel⟩, List.mem_append_right _ (List.mem_of_getElem? (i := 1781) (by decide +kernel)), List.mem_append_right _ (List.mem_of_getElem? (i := 1782) (by decide +kernel))⟩
def f_X12_lands_s45 (p2 : Int32)  (s45 : Int32 × Int32 × ea_M) : Option ((Int32 × Int32 × ea_M) ⊕ (Int32 × ea_M)) :=
  if 8 < s45.2.1 then
  some (.inr (s45.1, s45.2.2))
  else
  ea_cl (f_X12_landedAt s45.2.1 p2 s45.2.2) fun r13 m12 =>
  ea_bd (s45.1 + r13) fun x14 =>
  some (.inl (x14, s45.2.1 + 1, m12))
def f_X12_lands_j26 (p1 : Int32) (p2 : Int32) (x6 : Int32) (m7 : ea_M) : Option (Int32 × ea_M) :=
  ea_cl (f_X12_throwsIf x6 1 m7) fun r9 m8 =>
  if r9 = 0 then
  ea_cl (f_X12_laysWays p1 m8) fun r11 m10 =>
  (ea_loop (f_X12_lands_s45 p2) ea_fuel (0, 1, m10)).bind (fun x45s =>
  some (x45s.1, x45s.2))
  else
  some (0, m8)
def f_X12_lands_j21 (p1 : Int32) (p2 : Int32) (m15 : ea_M) : Option (Int32 × ea_M) :=
  f_X12_lands_j26 p1 p2 1 m15
def f_X12_lands (p1 : Int32) (p2 : Int32) (m : ea_M) : Option (Int32 × ea_M) :=
  ea_bd (ea_st m 272 0 0) fun m1 =>
  ea_cl (f_X12_noBird p1 m1) fun r3 m2 =>
  if r3 = 0 then
  ea_cl (f_X12_noColumn p2 m2) fun r5 m4 =>
  if r5 = 0 then
  f_X12_lands_j26 p1 p2 0 m4
  else
  f_X12_lands_j21 p1 p2 m4
  else
  f_X12_lands_j21 p1 p2 m2
set_option maxHeartbeats 300000 in
theorem lp_X12_lands_45 (G : ea_G) {res : ea_O}  (p2 : Int32)  {Ψ : (Int32 × ea_M) → Prop} (hX : ∀ x45s : Int32 × ea_M, Ψ x45s → ea_Ev G F_X12_lands res 68 [none, none, none, some (.int x45s.1), none] [] x45s.2 0 0) : ∀ (f : Nat) (s45 : Int32 × Int32 × ea_M), ea_E G F_X12_lands res 45 [some (.ref 272), none, some (.int p2), some (.int s45.1), some (.int s45.2.1)] [] s45.2.2 0 0 (ea_loop (f_X12_lands_s45 p2) f s45) Ψ := by
  refine ev_loop (G := G) (F := F_X12_lands) (res := res) (pc := 45) (st := []) (k := 0) (n := 0) (step := (f_X12_lands_s45 p2)) (Ψ := Ψ) (fun (s45 : Int32 × Int32 × ea_M) => [some (.ref 272), none, some (.int p2), some (.int s45.1), some (.int s45.2.1)]) (fun (s45 : Int32 × Int32 × ea_M) => s45.2.2) (fun s45 => ?_)
  have hC : ∀ s45 : Int32 × Int32 × ea_M, (Sum.elim (fun s45 : Int32 × Int32 × ea_M => ea_Ev G F_X12_lands res 45 [some (.ref 272), none, some (.int p2), some (.int s45.1), some (.int s45.2.1)] [] s45.2.2 0 0) Ψ) (.inl s45) → ea_Ev G F_X12_lands res 45 [some (.ref 272), none, some (.int p2), some (.int s45.1), some (.int s45.2.1)] [] s45.2.2 0 0 := fun _ h => h
  have hX : ∀ x45s : Int32 × ea_M, (Sum.elim (fun s45 : Int32 × Int32 × ea_M => ea_Ev G F_X12_lands res 45 [some (.ref 272), none, some (.int p2), some (.int s45.1), some (.int s45.2.1)] [] s45.2.2 0 0) Ψ) (.inr x45s) → ea_Ev G F_X12_lands res 68 [none, none, none, some (.int x45s.1), none] [] x45s.2 0 0 := hX
  unfold f_X12_lands_s45
  refine ev_iload (ea_at dt_X12_lands 26 rfl) rfl ?_
  refine ev_bipush (ea_at dt_X12_lands 27 rfl) bp_8 ?_
  refine ev_icmp_gt (tgt := 68) (ea_at dt_X12_lands 28 rfl) rfl (fun _ => ?_) (fun _ => ?_)
  · exact ev_leaf (fun h => ea_drop (l' := [none, none, none, some (.int s45.1), none]) ⟨Or.inl rfl, Or.inl rfl, Or.inl rfl, Or.inr rfl, Or.inl rfl, trivial⟩ (hX (s45.1, s45.2.2) h))
  · refine ev_iload_n (ea_at dt_X12_lands 29 rfl) rfl ?_
    refine ev_aload_n (ea_at dt_X12_lands 30 rfl) rfl ?_
    refine ev_iload (ea_at dt_X12_lands 31 rfl) rfl ?_
    refine ev_iload_n (ea_at dt_X12_lands 32 rfl) rfl ?_
    refine ev_clI (F1 := F_X12_landedAt) (fun rY mY hY => ea_runV (As := [.int s45.2.1, .int p2]) (ea_at dt_X12_lands 33 rfl) ml_X12_341 mv_X12_landedAt (ok_X12_landedAt G s45.2.1 p2 s45.2.2  rY mY hY) sh_272 rfl rfl rfl (Nat.le_of_ble_eq_true rfl) rfl) rfl (fun r13 m12 => ?_)
    refine ev_iadd (ea_at dt_X12_lands 34 rfl) ?_
    refine ev_i (fun x14 => ?_)
    refine ev_istore_n (ls' := [some (.ref 272), none, some (.int p2), some (.int x14), some (.int s45.2.1)]) (ea_at dt_X12_lands 35 rfl) (ea_lt rfl) rfl ?_
    refine ev_iinc (ls' := [some (.ref 272), none, some (.int p2), some (.int x14), some (.int (s45.2.1 + 1))]) (ea_at dt_X12_lands 36 rfl) rfl (congrArg (fun z => _ + z) ic_1) (ea_lt rfl) rfl ?_
    refine ev_goto (tgt := 45) (ea_at dt_X12_lands 37 rfl) rfl ?_
    exact ev_leaf (fun h => ea_drop (l' := [some (.ref 272), none, some (.int p2), some (.int x14), some (.int (s45.2.1 + 1))]) ⟨Or.inr rfl, Or.inl rfl, Or.inr rfl, Or.inr rfl, Or.inr rfl, trivial⟩ (hC (x14, s45.2.1 + 1, m12) h))
set_option maxHeartbeats 300000 in
theorem jn_X12_lands_26 (G : ea_G) {res : ea_O}  (p1 : Int32) (p2 : Int32) (x6 : Int32) (m7 : ea_M)  {Φ : (Int32 × ea_M) → Prop} (hR : ∀ t : Int32 × ea_M, Φ t → res = (0, t)) : ea_E G F_X12_lands res 26 [some (.ref 272), some (.int p1), some (.int p2), none, none] [.int x6, .ref 272] m7 0 0 (f_X12_lands_j26 p1 p2 x6 m7) Φ := by
  unfold f_X12_lands_j26
  refine ev_iconst (ea_at dt_X12_lands 14 rfl) ic_1 ?_
  refine ev_clI (F1 := F_X12_throwsIf) (fun rY mY hY => ea_runV (As := [.int x6, .int 1]) (ea_at dt_X12_lands 15 rfl) ml_X12_265 mv_X12_throwsIf (ok_X12_throwsIf G x6 1 m7  rY mY hY) sh_272 rfl rfl rfl (Nat.le_of_ble_eq_true rfl) rfl) rfl (fun r9 m8 => ?_)
  refine ev_if_eq (tgt := 35) (ea_at dt_X12_lands 16 rfl) rfl (fun _ => ?_) (fun _ => ?_)
  · refine ev_aload_n (ea_at dt_X12_lands 19 rfl) rfl ?_
    refine ev_iload_n (ea_at dt_X12_lands 20 rfl) rfl ?_
    refine ev_clU (F1 := F_X12_laysWays) (fun rY mY hY => ea_runV (As := [.int p1]) (ea_at dt_X12_lands 21 rfl) ml_X12_347 mv_X12_laysWays (ok_X12_laysWays G p1 m8  rY mY hY) sh_272 rfl rfl rfl (Nat.le_of_ble_eq_true rfl) rfl) rfl (fun r11 m10 => ?_)
    refine ev_iconst (ea_at dt_X12_lands 22 rfl) ic_0 ?_
    refine ev_istore_n (ls' := [some (.ref 272), some (.int p1), some (.int p2), some (.int 0), none]) (ea_at dt_X12_lands 23 rfl) (ea_lt rfl) rfl ?_
    refine ev_iconst (ea_at dt_X12_lands 24 rfl) ic_1 ?_
    refine ev_istore (ls' := [some (.ref 272), some (.int p1), some (.int p2), some (.int 0), some (.int 1)]) (ea_at dt_X12_lands 25 rfl) (ea_lt rfl) rfl ?_
    refine ev_drop (l' := [some (.ref 272), none, some (.int p2), some (.int 0), some (.int 1)]) ⟨Or.inr rfl, Or.inl rfl, Or.inr rfl, Or.inr rfl, Or.inr rfl, trivial⟩ ?_
    refine ev_bind (lp_X12_lands_45 G p2   (fun x45s h => ?_) ea_fuel (0, 1, m10))
    obtain ⟨t1, e1, q1⟩ := h
    refine (?_ : ea_E G F_X12_lands res 68 [none, none, none, some (.int x45s.1), none] [] x45s.2 0 0 _ Φ) t1 e1 q1
    refine ev_iload_n (ea_at dt_X12_lands 38 rfl) rfl ?_
    exact ev_iret (ea_at dt_X12_lands 39 rfl) rfl ⟨by decide, by decide⟩ (fun h => hR _ h)
  · refine ev_iconst (ea_at dt_X12_lands 17 rfl) ic_0 ?_
    exact ev_iret (ea_at dt_X12_lands 18 rfl) rfl ⟨by decide, by decide⟩ (fun h => hR _ h)
set_option maxHeartbeats 300000 in
theorem jn_X12_lands_21 (G : ea_G) {res : ea_O}  (p1 : Int32) (p2 : Int32) (m15 : ea_M)  {Φ : (Int32 × ea_M) → Prop} (hR : ∀ t : Int32 × ea_M, Φ t → res = (0, t)) : ea_E G F_X12_lands res 21 [some (.ref 272), some (.int p1), some (.int p2), none, none] [.ref 272] m15 0 0 (f_X12_lands_j21 p1 p2 m15) Φ := by
  unfold f_X12_lands_j21
  refine ev_iconst (ea_at dt_X12_lands 11 rfl) ic_1 ?_
  refine ev_goto (tgt := 26) (ea_at dt_X12_lands 12 rfl) rfl ?_
  exact ev_drop (l' := [some (.ref 272), some (.int p1), some (.int p2), none, none]) ⟨Or.inr rfl, Or.inr rfl, Or.inr rfl, Or.inl rfl, Or.inl rfl, trivial⟩ (jn_X12_lands_26 G p1 p2 1 m15  hR)
set_option maxHeartbeats 300000 in
theorem ok_X12_lands (G : ea_G) (p1 : Int32) (p2 : Int32) (m : ea_M)  (rZ : Int32) (mZ : ea_M) (hZ : f_X12_lands p1 p2 m = some (rZ, mZ)) : ea_Met G yX12_lands F_X12_lands [.ref 272, .int p1, .int p2] m (0, rZ, mZ) := by
  refine ea_met (F := F_X12_lands) (by decide +kernel) rfl rfl (Nat.le_of_ble_eq_true rfl) (by simp only [List.mem_cons, List.not_mem_nil, or_false]; intro v hv; rcases hv with rfl | rfl | rfl <;> rfl) ((?_ : ea_E G F_X12_lands (0, rZ, mZ) 0 [some (.ref 272), some (.int p1), some (.int p2), none, none] [] m 0 0 (f_X12_lands p1 p2 m) (fun t => t = (rZ, mZ))) (rZ, mZ) hZ rfl)
  have hR : ∀ t : Int32 × ea_M, t = (rZ, mZ) → ((0, rZ, mZ) : ea_O) = (0, t) := fun t h => by rw [h]
  unfold f_X12_lands
  refine ev_aload_n (ea_at dt_X12_lands 0 rfl) rfl ?_
  refine ev_iconst (ea_at dt_X12_lands 1 rfl) ic_0 ?_
  refine ev_putI (ea_at dt_X12_lands 2 rfl) fl_X12_3 fp_12_0 sh_272 rfl ?_
  refine ev_m (fun m1 => ?_)
  refine ev_aload_n (ea_at dt_X12_lands 3 rfl) rfl ?_
  refine ev_aload_n (ea_at dt_X12_lands 4 rfl) rfl ?_
  refine ev_iload_n (ea_at dt_X12_lands 5 rfl) rfl ?_
  refine ev_clI (F1 := F_X12_noBird) (fun rY mY hY => ea_runV (As := [.int p1]) (ea_at dt_X12_lands 6 rfl) ml_X12_303 mv_X12_noBird (ok_X12_noBird G p1 m1  rY mY hY) sh_272 rfl rfl rfl (Nat.le_of_ble_eq_true rfl) rfl) rfl (fun r3 m2 => ?_)
  refine ev_if_ne (tgt := 21) (ea_at dt_X12_lands 7 rfl) rfl (fun _ => ?_) (fun _ => ?_)
  · refine ev_iload_n (ea_at dt_X12_lands 8 rfl) rfl ?_
    refine ev_clI (F1 := F_X12_noColumn) (fun rY mY hY => ea_runS (As := [.int p2]) (ea_at dt_X12_lands 9 rfl) ml_X12_309 mv_X12_noColumn (ok_X12_noColumn G p2 m2  rY mY hY) rfl rfl (Nat.le_of_ble_eq_true rfl) rfl) rfl (fun r5 m4 => ?_)
    refine ev_if_eq (tgt := 25) (ea_at dt_X12_lands 10 rfl) rfl (fun _ => ?_) (fun _ => ?_)
    · refine ev_iconst (ea_at dt_X12_lands 13 rfl) ic_0 ?_
      exact ev_drop (l' := [some (.ref 272), some (.int p1), some (.int p2), none, none]) ⟨Or.inr rfl, Or.inr rfl, Or.inr rfl, Or.inl rfl, Or.inl rfl, trivial⟩ (jn_X12_lands_26 G p1 p2 0 m4  hR)
    · exact ev_drop (l' := [some (.ref 272), some (.int p1), some (.int p2), none, none]) ⟨Or.inr rfl, Or.inr rfl, Or.inr rfl, Or.inl rfl, Or.inl rfl, trivial⟩ (jn_X12_lands_21 G p1 p2 m4  hR)
  · exact ev_drop (l' := [some (.ref 272), some (.int p1), some (.int p2), none, none]) ⟨Or.inr rfl, Or.inr rfl, Or.inr rfl, Or.inl rfl, Or.inl rfl, trivial⟩ (jn_X12_lands_21 G p1 p2 m2  hR)
def F_X12_good : ea_F := (ea_rm 16 0 0, cX12_good, RX12, some .int, 3, [], 0, 0)
def D_X12_good : List (Nat × Instr × Nat) := [(0, .aload_n 0, 1), (1, .iconst 0, 1), (2, .putfield 3, 3), (5, .aload_n 0, 1), (6, .aload_n 0, 1), (7, .iload_n 1, 1), (8, .invokevirtual 303, 3), (11, .iconst 1, 1), (12, .invokevirtual 265, 3), (15, .ifCond .ne 26, 3), (18, .aload_n 0, 1), (19, .iload_n 2, 1), (20, .iconst 1, 1), (21, .bipush 8, 2), (23, .invokestatic 78, 3), (26, .ifCond .ne 7, 3), (29, .iconst 1, 1), (30, .goto 4, 3), (33, .iconst 0, 1), (34, .iconst 2, 1), (35, .invokevirtual 265, 3), (38, .ifCond .eq 5, 3), (41, .iconst 0, 1), (42, .ireturn, 1), (43, .aload_n 0, 1), (44, .iload_n 1, 1), (45, .invokevirtual 347, 3), (48, .aload_n 0, 1), (49, .iload_n 2, 1), (50, .invokevirtual 344, 3), (53, .ireturn, 1)]
theorem dt_X12_good : ∀ q ∈ D_X12_good, decode cX12_good q.1 = .ok q.2 := by decide +kernel
theorem mv_X12_good : ea_MV yX12_good (F_X12_good) 2 := ⟨⟨List.mem_append_right _ (List.mem_of_getElem? (i := 13) (by decide +kernel)), List.mem_append_right _ (List.mem_of_getElem? (i := 1787) (by decide +kernel)), ⟨by decide, by decide⟩, by decide +kernel⟩, List.mem_append_right _ (List.mem_of_getElem? (i := 1785) (by decide +kernel)), List.mem_append_right _ (List.mem_of_getElem? (i := 1786) (by decide +kernel))⟩
def f_X12_good_j34 (p1 : Int32) (p2 : Int32) (x8 : Int32) (m9 : ea_M) : Option (Int32 × ea_M) :=
  ea_cl (f_X12_throwsIf x8 2 m9) fun r11 m10 =>
  if r11 = 0 then
  ea_cl (f_X12_laysWays p1 m10) fun r13 m12 =>
  ea_cl (f_X12_goodAt p2 m12) fun r15 m14 =>
  some (r15, m14)
  else
  some (0, m10)
def f_X12_good (p1 : Int32) (p2 : Int32) (m : ea_M) : Option (Int32 × ea_M) :=
  ea_bd (ea_st m 272 0 0) fun m1 =>
  ea_cl (f_X12_noBird p1 m1) fun r3 m2 =>
  ea_cl (f_X12_throwsIf r3 1 m2) fun r5 m4 =>
  if r5 = 0 then
  ea_cl (f_X12_in p2 1 8 m4) fun r7 m6 =>
  if r7 = 0 then
  f_X12_good_j34 p1 p2 1 m6
  else
  f_X12_good_j34 p1 p2 0 m6
  else
  some (0, m4)
set_option maxHeartbeats 300000 in
theorem jn_X12_good_34 (G : ea_G) {res : ea_O}  (p1 : Int32) (p2 : Int32) (x8 : Int32) (m9 : ea_M)  {Φ : (Int32 × ea_M) → Prop} (hR : ∀ t : Int32 × ea_M, Φ t → res = (0, t)) : ea_E G F_X12_good res 34 [some (.ref 272), some (.int p1), some (.int p2)] [.int x8, .ref 272] m9 0 0 (f_X12_good_j34 p1 p2 x8 m9) Φ := by
  unfold f_X12_good_j34
  refine ev_iconst (ea_at dt_X12_good 19 rfl) ic_2 ?_
  refine ev_clI (F1 := F_X12_throwsIf) (fun rY mY hY => ea_runV (As := [.int x8, .int 2]) (ea_at dt_X12_good 20 rfl) ml_X12_265 mv_X12_throwsIf (ok_X12_throwsIf G x8 2 m9  rY mY hY) sh_272 rfl rfl rfl (Nat.le_of_ble_eq_true rfl) rfl) rfl (fun r11 m10 => ?_)
  refine ev_if_eq (tgt := 43) (ea_at dt_X12_good 21 rfl) rfl (fun _ => ?_) (fun _ => ?_)
  · refine ev_aload_n (ea_at dt_X12_good 24 rfl) rfl ?_
    refine ev_iload_n (ea_at dt_X12_good 25 rfl) rfl ?_
    refine ev_clU (F1 := F_X12_laysWays) (fun rY mY hY => ea_runV (As := [.int p1]) (ea_at dt_X12_good 26 rfl) ml_X12_347 mv_X12_laysWays (ok_X12_laysWays G p1 m10  rY mY hY) sh_272 rfl rfl rfl (Nat.le_of_ble_eq_true rfl) rfl) rfl (fun r13 m12 => ?_)
    refine ev_aload_n (ea_at dt_X12_good 27 rfl) rfl ?_
    refine ev_iload_n (ea_at dt_X12_good 28 rfl) rfl ?_
    refine ev_clI (F1 := F_X12_goodAt) (fun rY mY hY => ea_runV (As := [.int p2]) (ea_at dt_X12_good 29 rfl) ml_X12_344 mv_X12_goodAt (ok_X12_goodAt G p2 m12  rY mY hY) sh_272 rfl rfl rfl (Nat.le_of_ble_eq_true rfl) rfl) rfl (fun r15 m14 => ?_)
    exact ev_iret (ea_at dt_X12_good 30 rfl) rfl ⟨by decide, by decide⟩ (fun h => hR _ h)
  · refine ev_iconst (ea_at dt_X12_good 22 rfl) ic_0 ?_
    exact ev_iret (ea_at dt_X12_good 23 rfl) rfl ⟨by decide, by decide⟩ (fun h => hR _ h)
set_option maxHeartbeats 300000 in
theorem ok_X12_good (G : ea_G) (p1 : Int32) (p2 : Int32) (m : ea_M)  (rZ : Int32) (mZ : ea_M) (hZ : f_X12_good p1 p2 m = some (rZ, mZ)) : ea_Met G yX12_good F_X12_good [.ref 272, .int p1, .int p2] m (0, rZ, mZ) := by
  refine ea_met (F := F_X12_good) (by decide +kernel) rfl rfl (Nat.le_of_ble_eq_true rfl) (by simp only [List.mem_cons, List.not_mem_nil, or_false]; intro v hv; rcases hv with rfl | rfl | rfl <;> rfl) ((?_ : ea_E G F_X12_good (0, rZ, mZ) 0 [some (.ref 272), some (.int p1), some (.int p2)] [] m 0 0 (f_X12_good p1 p2 m) (fun t => t = (rZ, mZ))) (rZ, mZ) hZ rfl)
  have hR : ∀ t : Int32 × ea_M, t = (rZ, mZ) → ((0, rZ, mZ) : ea_O) = (0, t) := fun t h => by rw [h]
  unfold f_X12_good
  refine ev_aload_n (ea_at dt_X12_good 0 rfl) rfl ?_
  refine ev_iconst (ea_at dt_X12_good 1 rfl) ic_0 ?_
  refine ev_putI (ea_at dt_X12_good 2 rfl) fl_X12_3 fp_12_0 sh_272 rfl ?_
  refine ev_m (fun m1 => ?_)
  refine ev_aload_n (ea_at dt_X12_good 3 rfl) rfl ?_
  refine ev_aload_n (ea_at dt_X12_good 4 rfl) rfl ?_
  refine ev_iload_n (ea_at dt_X12_good 5 rfl) rfl ?_
  refine ev_clI (F1 := F_X12_noBird) (fun rY mY hY => ea_runV (As := [.int p1]) (ea_at dt_X12_good 6 rfl) ml_X12_303 mv_X12_noBird (ok_X12_noBird G p1 m1  rY mY hY) sh_272 rfl rfl rfl (Nat.le_of_ble_eq_true rfl) rfl) rfl (fun r3 m2 => ?_)
  refine ev_iconst (ea_at dt_X12_good 7 rfl) ic_1 ?_
  refine ev_clI (F1 := F_X12_throwsIf) (fun rY mY hY => ea_runV (As := [.int r3, .int 1]) (ea_at dt_X12_good 8 rfl) ml_X12_265 mv_X12_throwsIf (ok_X12_throwsIf G r3 1 m2  rY mY hY) sh_272 rfl rfl rfl (Nat.le_of_ble_eq_true rfl) rfl) rfl (fun r5 m4 => ?_)
  refine ev_if_ne (tgt := 41) (ea_at dt_X12_good 9 rfl) rfl (fun _ => ?_) (fun _ => ?_)
  · refine ev_aload_n (ea_at dt_X12_good 10 rfl) rfl ?_
    refine ev_iload_n (ea_at dt_X12_good 11 rfl) rfl ?_
    refine ev_iconst (ea_at dt_X12_good 12 rfl) ic_1 ?_
    refine ev_bipush (ea_at dt_X12_good 13 rfl) bp_8 ?_
    refine ev_clI (F1 := F_X12_in) (fun rY mY hY => ea_runS (As := [.int p2, .int 1, .int 8]) (ea_at dt_X12_good 14 rfl) ml_X12_78 mv_X12_in (ok_X12_in G p2 1 8 m4  rY mY hY) rfl rfl (Nat.le_of_ble_eq_true rfl) rfl) rfl (fun r7 m6 => ?_)
    refine ev_if_ne (tgt := 33) (ea_at dt_X12_good 15 rfl) rfl (fun _ => ?_) (fun _ => ?_)
    · refine ev_iconst (ea_at dt_X12_good 16 rfl) ic_1 ?_
      refine ev_goto (tgt := 34) (ea_at dt_X12_good 17 rfl) rfl ?_
      exact ev_drop (l' := [some (.ref 272), some (.int p1), some (.int p2)]) ⟨Or.inr rfl, Or.inr rfl, Or.inr rfl, trivial⟩ (jn_X12_good_34 G p1 p2 1 m6  hR)
    · refine ev_iconst (ea_at dt_X12_good 18 rfl) ic_0 ?_
      exact ev_drop (l' := [some (.ref 272), some (.int p1), some (.int p2)]) ⟨Or.inr rfl, Or.inr rfl, Or.inr rfl, trivial⟩ (jn_X12_good_34 G p1 p2 0 m6  hR)
  · refine ev_iconst (ea_at dt_X12_good 22 rfl) ic_0 ?_
    exact ev_iret (ea_at dt_X12_good 23 rfl) rfl ⟨by decide, by decide⟩ (fun h => hR _ h)
