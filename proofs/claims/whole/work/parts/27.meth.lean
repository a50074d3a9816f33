def F_X12_readAll : ea_F := (ea_rm 54 0 0, cX12_readAll, RX12, some .int, 3, [], 0, 0)
def D_X12_readAll : List (Nat × Instr × Nat) := [(0, .aload_n 0, 1), (1, .invokevirtual 254, 3), (4, .aload_n 0, 1), (5, .iconst 0, 1), (6, .putfield 191, 3), (9, .aload_n 0, 1), (10, .invokevirtual 105, 3), (13, .aload_n 0, 1), (14, .getfield 92, 3), (17, .aload_n 0, 1), (18, .getfield 95, 3), (21, .if_icmp .ne 5, 3), (24, .iconst 0, 1), (25, .ireturn, 1), (26, .iconst 0, 1), (27, .istore_n 2, 1), (28, .aload_n 0, 1), (29, .iload_n 1, 1), (30, .iload_n 2, 1), (31, .invokevirtual 257, 3), (34, .ifCond .ne 5, 3), (37, .iconst (-1), 1), (38, .ireturn, 1), (39, .aload_n 0, 1), (40, .invokevirtual 105, 3), (43, .aload_n 0, 1), (44, .getfield 92, 3), (47, .aload_n 0, 1), (48, .getfield 95, 3), (51, .if_icmp .ne 7, 3), (54, .iload_n 2, 1), (55, .iconst 1, 1), (56, .iadd, 1), (57, .ireturn, 1), (58, .aload_n 0, 1), (59, .bipush 59, 2), (61, .bipush 59, 2), (63, .invokevirtual 98, 3), (66, .ifCond .ne 5, 3), (69, .iconst (-1), 1), (70, .ireturn, 1), (71, .aload_n 0, 1), (72, .dup, 1), (73, .getfield 92, 3), (76, .iconst 1, 1), (77, .iadd, 1), (78, .putfield 92, 3), (81, .iinc 2 1, 3), (84, .goto (-56), 3)]
theorem dt_X12_readAll : ∀ q ∈ D_X12_readAll, decode cX12_readAll q.1 = .ok q.2 := by decide +kernel
theorem mv_X12_readAll : ea_MV yX12_readAll (F_X12_readAll) 1 := ⟨⟨List.mem_append_right _ (List.mem_of_getElem? (i := 13) (by decide +kernel)), List.mem_append_right _ (List.mem_of_getElem? (i := 1528) (by decide +kernel)), ⟨by decide, by decide⟩, by decide +kernel⟩, List.mem_append_right _ (List.mem_of_getElem? (i := 1527) (by decide +kernel)), List.mem_append_left _ (List.mem_of_getElem? (i := 42) (by decide +kernel))⟩
def f_X12_readAll_s28 (p1 : Int32)  (s28 : Int32 × ea_M) : Option ((Int32 × ea_M) ⊕ ((Int32 × ea_M) ⊕ Empty)) :=
  ea_cl (f_X12_readLine p1 s28.1 s28.2) fun r9 m8 =>
  if r9 = 0 then
  some (.inr (.inl ((-1), m8)))
  else
  ea_cl (f_X12_blanks m8) fun r11 m10 =>
  ea_bd (m10 272 10) fun x12 =>
  ea_bd (m10 272 11) fun x13 =>
  if x12 = x13 then
  some (.inr (.inl (s28.1 + 1, m10)))
  else
  ea_cl (f_X12_isAt 59 59 m10) fun r15 m14 =>
  if r15 = 0 then
  some (.inr (.inl ((-1), m14)))
  else
  ea_bd (m14 272 10) fun x16 =>
  ea_bd (ea_st m14 272 10 (x16 + 1)) fun m17 =>
  some (.inl (s28.1 + 1, m17))
def f_X12_readAll (p1 : Int32) (m : ea_M) : Option (Int32 × ea_M) :=
  ea_cl (f_X12_uses m) fun r2 m1 =>
  ea_bd (ea_st m1 272 16 0) fun m3 =>
  ea_cl (f_X12_blanks m3) fun r5 m4 =>
  ea_bd (m4 272 10) fun x6 =>
  ea_bd (m4 272 11) fun x7 =>
  if x6 = x7 then
  some (0, m4)
  else
  ea_sl (ea_loop (f_X12_readAll_s28 p1) ea_fuel (0, m4)) (fun t => some t) (fun z => nomatch z)
set_option maxHeartbeats 300000 in
theorem lp_X12_readAll_28 (G : ea_G) {res : ea_O}  (p1 : Int32)  {Ψ : ((Int32 × ea_M) ⊕ Empty) → Prop} (hR : ∀ t : Int32 × ea_M, Ψ (.inl t) → res = (0, t)) : ∀ (f : Nat) (s28 : Int32 × ea_M), ea_E G F_X12_readAll res 28 [some (.ref 272), some (.int p1), some (.int s28.1)] [] s28.2 0 0 (ea_loop (f_X12_readAll_s28 p1) f s28) Ψ := by
  refine ev_loop (G := G) (F := F_X12_readAll) (res := res) (pc := 28) (st := []) (k := 0) (n := 0) (step := (f_X12_readAll_s28 p1)) (Ψ := Ψ) (fun (s28 : Int32 × ea_M) => [some (.ref 272), some (.int p1), some (.int s28.1)]) (fun (s28 : Int32 × ea_M) => s28.2) (fun s28 => ?_)
  have hC : ∀ s28 : Int32 × ea_M, (Sum.elim (fun s28 : Int32 × ea_M => ea_Ev G F_X12_readAll res 28 [some (.ref 272), some (.int p1), some (.int s28.1)] [] s28.2 0 0) Ψ) (.inl s28) → ea_Ev G F_X12_readAll res 28 [some (.ref 272), some (.int p1), some (.int s28.1)] [] s28.2 0 0 := fun _ h => h
  have hR : ∀ t : Int32 × ea_M, (Sum.elim (fun s28 : Int32 × ea_M => ea_Ev G F_X12_readAll res 28 [some (.ref 272), some (.int p1), some (.int s28.1)] [] s28.2 0 0) Ψ) (.inr (.inl t)) → res = (0, t) := hR
  unfold f_X12_readAll_s28
  refine ev_aload_n (ea_at dt_X12_readAll 16 rfl) rfl ?_
  refine ev_iload_n (ea_at dt_X12_readAll 17 rfl) rfl ?_
  refine ev_iload_n (ea_at dt_X12_readAll 18 rfl) rfl ?_
  refine ev_clI (F1 := F_X12_readLine) (fun rY mY hY => ea_runV (As := [.int p1, .int s28.1]) (ea_at dt_X12_readAll 19 rfl) ml_X12_257 mv_X12_readLine (ok_X12_readLine G p1 s28.1 s28.2  rY mY hY) sh_272 rfl rfl rfl (Nat.le_of_ble_eq_true rfl) rfl) rfl (fun r9 m8 => ?_)
  refine ev_if_ne (tgt := 39) (ea_at dt_X12_readAll 20 rfl) rfl (fun _ => ?_) (fun _ => ?_)
  · refine ev_iconst (ea_at dt_X12_readAll 21 rfl) ic_m1 ?_
    exact ev_iret (ea_at dt_X12_readAll 22 rfl) rfl ⟨by decide, by decide⟩ (fun h => hR _ h)
  · refine ev_aload_n (ea_at dt_X12_readAll 23 rfl) rfl ?_
    refine ev_clU (F1 := F_X12_blanks) (fun rY mY hY => ea_runV (As := []) (ea_at dt_X12_readAll 24 rfl) ml_X12_105 mv_X12_blanks (ok_X12_blanks G m8  rY mY hY) sh_272 rfl rfl rfl (Nat.le_of_ble_eq_true rfl) rfl) rfl (fun r11 m10 => ?_)
    refine ev_aload_n (ea_at dt_X12_readAll 25 rfl) rfl ?_
    refine ev_getI (ea_at dt_X12_readAll 26 rfl) fl_X12_92 sh_272 rfl ?_
    refine ev_i (fun x12 => ?_)
    refine ev_aload_n (ea_at dt_X12_readAll 27 rfl) rfl ?_
    refine ev_getI (ea_at dt_X12_readAll 28 rfl) fl_X12_95 sh_272 rfl ?_
    refine ev_i (fun x13 => ?_)
    refine ev_icmp_ne (tgt := 58) (ea_at dt_X12_readAll 29 rfl) rfl (fun _ => ?_) (fun _ => ?_)
    · refine ev_iload_n (ea_at dt_X12_readAll 30 rfl) rfl ?_
      refine ev_iconst (ea_at dt_X12_readAll 31 rfl) ic_1 ?_
      refine ev_iadd (ea_at dt_X12_readAll 32 rfl) ?_
      exact ev_iret (ea_at dt_X12_readAll 33 rfl) rfl ⟨by decide, by decide⟩ (fun h => hR _ h)
    · refine ev_aload_n (ea_at dt_X12_readAll 34 rfl) rfl ?_
      refine ev_bipush (ea_at dt_X12_readAll 35 rfl) bp_59 ?_
      refine ev_bipush (ea_at dt_X12_readAll 36 rfl) bp_59 ?_
      refine ev_clI (F1 := F_X12_isAt) (fun rY mY hY => ea_runV (As := [.int 59, .int 59]) (ea_at dt_X12_readAll 37 rfl) ml_X12_98 mv_X12_isAt (ok_X12_isAt G 59 59 m10  rY mY hY) sh_272 rfl rfl rfl (Nat.le_of_ble_eq_true rfl) rfl) rfl (fun r15 m14 => ?_)
      refine ev_if_ne (tgt := 71) (ea_at dt_X12_readAll 38 rfl) rfl (fun _ => ?_) (fun _ => ?_)
      · refine ev_iconst (ea_at dt_X12_readAll 39 rfl) ic_m1 ?_
        exact ev_iret (ea_at dt_X12_readAll 40 rfl) rfl ⟨by decide, by decide⟩ (fun h => hR _ h)
      · refine ev_aload_n (ea_at dt_X12_readAll 41 rfl) rfl ?_
        refine ev_dup (ea_at dt_X12_readAll 42 rfl) rfl ?_
        refine ev_getI (ea_at dt_X12_readAll 43 rfl) fl_X12_92 sh_272 rfl ?_
        refine ev_i (fun x16 => ?_)
        refine ev_iconst (ea_at dt_X12_readAll 44 rfl) ic_1 ?_
        refine ev_iadd (ea_at dt_X12_readAll 45 rfl) ?_
        refine ev_putI (ea_at dt_X12_readAll 46 rfl) fl_X12_92 fp_12_10 sh_272 rfl ?_
        refine ev_m (fun m17 => ?_)
        refine ev_iinc (ls' := [some (.ref 272), some (.int p1), some (.int (s28.1 + 1))]) (ea_at dt_X12_readAll 47 rfl) rfl (congrArg (fun z => _ + z) ic_1) (ea_lt rfl) rfl ?_
        refine ev_goto (tgt := 28) (ea_at dt_X12_readAll 48 rfl) rfl ?_
        exact ev_leaf (fun h => ea_drop (l' := [some (.ref 272), some (.int p1), some (.int (s28.1 + 1))]) ⟨Or.inr rfl, Or.inr rfl, Or.inr rfl, trivial⟩ (hC (s28.1 + 1, m17) h))
set_option maxHeartbeats 300000 in
theorem ok_X12_readAll (G : ea_G) (p1 : Int32) (m : ea_M)  (rZ : Int32) (mZ : ea_M) (hZ : f_X12_readAll p1 m = some (rZ, mZ)) : ea_Met G yX12_readAll F_X12_readAll [.ref 272, .int p1] m (0, rZ, mZ) := by
  refine ea_met (F := F_X12_readAll) (by decide +kernel) rfl rfl (Nat.le_of_ble_eq_true rfl) (by simp only [List.mem_cons, List.not_mem_nil, or_false]; intro v hv; rcases hv with rfl | rfl <;> rfl) ((?_ : ea_E G F_X12_readAll (0, rZ, mZ) 0 [some (.ref 272), some (.int p1), none] [] m 0 0 (f_X12_readAll p1 m) (fun t => t = (rZ, mZ))) (rZ, mZ) hZ rfl)
  have hR : ∀ t : Int32 × ea_M, t = (rZ, mZ) → ((0, rZ, mZ) : ea_O) = (0, t) := fun t h => by rw [h]
  unfold f_X12_readAll
  refine ev_aload_n (ea_at dt_X12_readAll 0 rfl) rfl ?_
  refine ev_clU (F1 := F_X12_uses) (fun rY mY hY => ea_runV (As := []) (ea_at dt_X12_readAll 1 rfl) ml_X12_254 mv_X12_uses (ok_X12_uses G m  rY mY hY) sh_272 rfl rfl rfl (Nat.le_of_ble_eq_true rfl) rfl) rfl (fun r2 m1 => ?_)
  refine ev_aload_n (ea_at dt_X12_readAll 2 rfl) rfl ?_
  refine ev_iconst (ea_at dt_X12_readAll 3 rfl) ic_0 ?_
  refine ev_putI (ea_at dt_X12_readAll 4 rfl) fl_X12_191 fp_12_16 sh_272 rfl ?_
  refine ev_m (fun m3 => ?_)
  refine ev_aload_n (ea_at dt_X12_readAll 5 rfl) rfl ?_
  refine ev_clU (F1 := F_X12_blanks) (fun rY mY hY => ea_runV (As := []) (ea_at dt_X12_readAll 6 rfl) ml_X12_105 mv_X12_blanks (ok_X12_blanks G m3  rY mY hY) sh_272 rfl rfl rfl (Nat.le_of_ble_eq_true rfl) rfl) rfl (fun r5 m4 => ?_)
  refine ev_aload_n (ea_at dt_X12_readAll 7 rfl) rfl ?_
  refine ev_getI (ea_at dt_X12_readAll 8 rfl) fl_X12_92 sh_272 rfl ?_
  refine ev_i (fun x6 => ?_)
  refine ev_aload_n (ea_at dt_X12_readAll 9 rfl) rfl ?_
  refine ev_getI (ea_at dt_X12_readAll 10 rfl) fl_X12_95 sh_272 rfl ?_
  refine ev_i (fun x7 => ?_)
  refine ev_icmp_ne (tgt := 26) (ea_at dt_X12_readAll 11 rfl) rfl (fun _ => ?_) (fun _ => ?_)
  · refine ev_iconst (ea_at dt_X12_readAll 12 rfl) ic_0 ?_
    exact ev_iret (ea_at dt_X12_readAll 13 rfl) rfl ⟨by decide, by decide⟩ (fun h => hR _ h)
  · refine ev_iconst (ea_at dt_X12_readAll 14 rfl) ic_0 ?_
    refine ev_istore_n (ls' := [some (.ref 272), some (.int p1), some (.int 0)]) (ea_at dt_X12_readAll 15 rfl) (ea_lt rfl) rfl ?_
    refine ev_drop (l' := [some (.ref 272), some (.int p1), some (.int 0)]) ⟨Or.inr rfl, Or.inr rfl, Or.inr rfl, trivial⟩ ?_
    exact ev_sl (lp_X12_readAll_28 G p1  (fun t h => by obtain ⟨t1, e1, q1⟩ := h; cases e1; exact hR t q1) ea_fuel (0, m4))
def F_X12_court : ea_F := (ea_rm 55 0 0, cX12_court, RX12, some .int, 3, [], 0, 0)
def D_X12_court : List (Nat × Instr × Nat) := [(0, .iconst 0, 1), (1, .istore_n 1, 1), (2, .iload_n 1, 1), (3, .sipush 1331, 3), (6, .if_icmp .ge 21, 3), (9, .aload_n 0, 1), (10, .getfield 20, 3), (13, .iload_n 1, 1), (14, .aload_n 0, 1), (15, .getfield 13, 3), (18, .iload_n 1, 1), (19, .iaload, 1), (20, .iastore, 1), (21, .iinc 1 1, 3), (24, .goto (-22), 3), (27, .aload_n 0, 1), (28, .iconst 1, 1), (29, .invokevirtual 261, 3), (32, .istore_n 1, 1), (33, .aload_n 0, 1), (34, .iload_n 1, 1), (35, .ifCond .ge 10, 3), (38, .aload_n 0, 1), (39, .getfield 102, 3), (42, .goto 4, 3), (45, .iconst (-1), 1), (46, .putfield 33, 3), (49, .aload_n 0, 1), (50, .iload_n 1, 1), (51, .ifCond .ge 7, 3), (54, .iconst 1, 1), (55, .goto 4, 3), (58, .iconst 0, 1), (59, .iconst 1, 1), (60, .invokevirtual 265, 3), (63, .ifCond .ne 27, 3), (66, .aload_n 0, 1), (67, .aload_n 0, 1), (68, .getfield 13, 3), (71, .iconst 3, 1), (72, .iaload, 1), (73, .bipush 12, 2), (75, .if_icmp .ne 7, 3), (78, .iconst 1, 1), (79, .goto 4, 3), (82, .iconst 0, 1), (83, .iconst 2, 1), (84, .invokevirtual 265, 3), (87, .ifCond .eq 32, 3), (90, .iconst 0, 1), (91, .istore_n 2, 1), (92, .iload_n 2, 1), (93, .sipush 1331, 3), (96, .if_icmp .ge 21, 3), (99, .aload_n 0, 1), (100, .getfield 13, 3), (103, .iload_n 2, 1), (104, .aload_n 0, 1), (105, .getfield 20, 3), (108, .iload_n 2, 1), (109, .iaload, 1), (110, .iastore, 1), (111, .iinc 2 1, 3), (114, .goto (-22), 3), (117, .iconst 0, 1), (118, .ireturn, 1), (119, .aload_n 0, 1), (120, .getfield 13, 3), (123, .iconst 3, 1), (124, .dup2, 1), (125, .iaload, 1), (126, .iconst 1, 1), (127, .iadd, 1), (128, .iastore, 1), (129, .aload_n 0, 1), (130, .iconst 0, 1), (131, .putfield 64, 3), (134, .aload_n 0, 1), (135, .getfield 13, 3), (138, .iconst 3, 1), (139, .iaload, 1), (140, .ireturn, 1)]
theorem dt_X12_court : ∀ q ∈ D_X12_court, decode cX12_court q.1 = .ok q.2 := by decide +kernel
theorem mv_X12_court : ea_MV yX12_court (F_X12_court) 0 := ⟨⟨List.mem_append_right _ (List.mem_of_getElem? (i := 13) (by decide +kernel)), List.mem_append_right _ (List.mem_of_getElem? (i := 1524) (by decide +kernel)), ⟨by decide, by decide⟩, by decide +kernel⟩, List.mem_append_right _ (List.mem_of_getElem? (i := 1522) (by decide +kernel)), List.mem_append_right _ (List.mem_of_getElem? (i := 1523) (by decide +kernel))⟩
def f_X12_court_s2  (s2 : Int32 × ea_M) : Option ((Int32 × ea_M) ⊕ (ea_M)) :=
  if 1331 ≤ s2.1 then
  some (.inr s2.2)
  else
  ea_g s2.1 2180 (ea_bd (s2.2 273 (Int32.toNatClampNeg s2.1)) fun x1 =>
  ea_g s2.1 1331 (ea_bd (ea_st s2.2 275 (Int32.toNatClampNeg s2.1) x1) fun m2 =>
  some (.inl (s2.1 + 1, m2))))
def f_X12_court_s92  (s92 : Int32 × ea_M) : Option ((Int32 × ea_M) ⊕ (ea_M)) :=
  if 1331 ≤ s92.1 then
  some (.inr s92.2)
  else
  ea_g s92.1 1331 (ea_bd (s92.2 275 (Int32.toNatClampNeg s92.1)) fun x23 =>
  ea_g s92.1 2180 (ea_bd (ea_st s92.2 273 (Int32.toNatClampNeg s92.1) x23) fun m24 =>
  some (.inl (s92.1 + 1, m24))))
def f_X12_court_j90 (m22 : ea_M) : Option (Int32 × ea_M) :=
  (ea_loop f_X12_court_s92 ea_fuel (0, m22)).bind (fun x92s =>
  some (0, x92s))
def f_X12_court_j83 (x14 : Int32) (m15 : ea_M) : Option (Int32 × ea_M) :=
  ea_cl (f_X12_throwsIf x14 2 m15) fun r17 m16 =>
  if r17 = 0 then
  ea_bd (m16 273 3) fun x18 =>
  ea_bd (ea_st m16 273 3 (x18 + 1)) fun m19 =>
  ea_bd (ea_st m19 272 7 0) fun m20 =>
  ea_bd (m20 273 3) fun x21 =>
  some (x21, m20)
  else
  f_X12_court_j90 m16
def f_X12_court_j59 (x9 : Int32) (m10 : ea_M) : Option (Int32 × ea_M) :=
  ea_cl (f_X12_throwsIf x9 1 m10) fun r12 m11 =>
  if r12 = 0 then
  ea_bd (m11 273 3) fun x13 =>
  if x13 = 12 then
  f_X12_court_j83 1 m11
  else
  f_X12_court_j83 0 m11
  else
  f_X12_court_j90 m11
def f_X12_court_j46 (x5 : Int32) (x6 : Int32) (m7 : ea_M) : Option (Int32 × ea_M) :=
  ea_bd (ea_st m7 272 14 x6) fun m8 =>
  if 0 ≤ x5 then
  f_X12_court_j59 0 m8
  else
  f_X12_court_j59 1 m8
def f_X12_court (m : ea_M) : Option (Int32 × ea_M) :=
  (ea_loop f_X12_court_s2 ea_fuel (0, m)).bind (fun x2s =>
  ea_cl (f_X12_readAll 1 x2s) fun r4 m3 =>
  if 0 ≤ r4 then
  f_X12_court_j46 r4 (-1) m3
  else
  ea_bd (m3 272 12) fun x25 =>
  f_X12_court_j46 r4 x25 m3)
set_option maxHeartbeats 300000 in
theorem lp_X12_court_2 (G : ea_G) {res : ea_O}    {Ψ : ea_M → Prop} (hX : ∀ x2s : ea_M, Ψ x2s → ea_Ev G F_X12_court res 27 [some (.ref 272), none, none] [] x2s 0 0) : ∀ (f : Nat) (s2 : Int32 × ea_M), ea_E G F_X12_court res 2 [some (.ref 272), some (.int s2.1), none] [] s2.2 0 0 (ea_loop f_X12_court_s2 f s2) Ψ := by
  refine ev_loop (G := G) (F := F_X12_court) (res := res) (pc := 2) (st := []) (k := 0) (n := 0) (step := f_X12_court_s2) (Ψ := Ψ) (fun (s2 : Int32 × ea_M) => [some (.ref 272), some (.int s2.1), none]) (fun (s2 : Int32 × ea_M) => s2.2) (fun s2 => ?_)
  have hC : ∀ s2 : Int32 × ea_M, (Sum.elim (fun s2 : Int32 × ea_M => ea_Ev G F_X12_court res 2 [some (.ref 272), some (.int s2.1), none] [] s2.2 0 0) Ψ) (.inl s2) → ea_Ev G F_X12_court res 2 [some (.ref 272), some (.int s2.1), none] [] s2.2 0 0 := fun _ h => h
  have hX : ∀ x2s : ea_M, (Sum.elim (fun s2 : Int32 × ea_M => ea_Ev G F_X12_court res 2 [some (.ref 272), some (.int s2.1), none] [] s2.2 0 0) Ψ) (.inr x2s) → ea_Ev G F_X12_court res 27 [some (.ref 272), none, none] [] x2s 0 0 := hX
  unfold f_X12_court_s2
  refine ev_iload_n (ea_at dt_X12_court 2 rfl) rfl ?_
  refine ev_sipush (ea_at dt_X12_court 3 rfl) sp_1331 ?_
  refine ev_icmp_ge (tgt := 27) (ea_at dt_X12_court 4 rfl) rfl (fun _ => ?_) (fun _ => ?_)
  · exact ev_leaf (fun h => ea_drop (l' := [some (.ref 272), none, none]) ⟨Or.inr rfl, Or.inl rfl, Or.inl rfl, trivial⟩ (hX s2.2 h))
  · refine ev_aload_n (ea_at dt_X12_court 5 rfl) rfl ?_
    refine ev_getR (ea_at dt_X12_court 6 rfl) fl_X12_20 sh_272 rfl ?_
    refine ev_iload_n (ea_at dt_X12_court 7 rfl) rfl ?_
    refine ev_aload_n (ea_at dt_X12_court 8 rfl) rfl ?_
    refine ev_getR (ea_at dt_X12_court 9 rfl) fl_X12_13 sh_272 rfl ?_
    refine ev_iload_n (ea_at dt_X12_court 10 rfl) rfl ?_
    refine ev_iaload (ea_at dt_X12_court 11 rfl) sh_273 (by decide) ?_
    refine ev_i (fun x1 => ?_)
    refine ev_iastore (ea_at dt_X12_court 12 rfl) sh_275 (by decide) ?_
    refine ev_m (fun m2 => ?_)
    refine ev_iinc (ls' := [some (.ref 272), some (.int (s2.1 + 1)), none]) (ea_at dt_X12_court 13 rfl) rfl (congrArg (fun z => _ + z) ic_1) (ea_lt rfl) rfl ?_
    refine ev_goto (tgt := 2) (ea_at dt_X12_court 14 rfl) rfl ?_
    exact ev_leaf (fun h => ea_drop (l' := [some (.ref 272), some (.int (s2.1 + 1)), none]) ⟨Or.inr rfl, Or.inr rfl, Or.inl rfl, trivial⟩ (hC (s2.1 + 1, m2) h))
set_option maxHeartbeats 300000 in
theorem lp_X12_court_92 (G : ea_G) {res : ea_O}    {Ψ : ea_M → Prop} (hX : ∀ x92s : ea_M, Ψ x92s → ea_Ev G F_X12_court res 117 [none, none, none] [] x92s 0 0) : ∀ (f : Nat) (s92 : Int32 × ea_M), ea_E G F_X12_court res 92 [some (.ref 272), none, some (.int s92.1)] [] s92.2 0 0 (ea_loop f_X12_court_s92 f s92) Ψ := by
  refine ev_loop (G := G) (F := F_X12_court) (res := res) (pc := 92) (st := []) (k := 0) (n := 0) (step := f_X12_court_s92) (Ψ := Ψ) (fun (s92 : Int32 × ea_M) => [some (.ref 272), none, some (.int s92.1)]) (fun (s92 : Int32 × ea_M) => s92.2) (fun s92 => ?_)
  have hC : ∀ s92 : Int32 × ea_M, (Sum.elim (fun s92 : Int32 × ea_M => ea_Ev G F_X12_court res 92 [some (.ref 272), none, some (.int s92.1)] [] s92.2 0 0) Ψ) (.inl s92) → ea_Ev G F_X12_court res 92 [some (.ref 272), none, some (.int s92.1)] [] s92.2 0 0 := fun _ h => h
  have hX : ∀ x92s : ea_M, (Sum.elim (fun s92 : Int32 × ea_M => ea_Ev G F_X12_court res 92 [some (.ref 272), none, some (.int s92.1)] [] s92.2 0 0) Ψ) (.inr x92s) → ea_Ev G F_X12_court res 117 [none, none, none] [] x92s 0 0 := hX
  unfold f_X12_court_s92
  refine ev_iload_n (ea_at dt_X12_court 51 rfl) rfl ?_
  refine ev_sipush (ea_at dt_X12_court 52 rfl) sp_1331 ?_
  refine ev_icmp_ge (tgt := 117) (ea_at dt_X12_court 53 rfl) rfl (fun _ => ?_) (fun _ => ?_)
  · exact ev_leaf (fun h => ea_drop (l' := [none, none, none]) ⟨Or.inl rfl, Or.inl rfl, Or.inl rfl, trivial⟩ (hX s92.2 h))
  · refine ev_aload_n (ea_at dt_X12_court 54 rfl) rfl ?_
    refine ev_getR (ea_at dt_X12_court 55 rfl) fl_X12_13 sh_272 rfl ?_
    refine ev_iload_n (ea_at dt_X12_court 56 rfl) rfl ?_
    refine ev_aload_n (ea_at dt_X12_court 57 rfl) rfl ?_
    refine ev_getR (ea_at dt_X12_court 58 rfl) fl_X12_20 sh_272 rfl ?_
    refine ev_iload_n (ea_at dt_X12_court 59 rfl) rfl ?_
    refine ev_iaload (ea_at dt_X12_court 60 rfl) sh_275 (by decide) ?_
    refine ev_i (fun x23 => ?_)
    refine ev_iastore (ea_at dt_X12_court 61 rfl) sh_273 (by decide) ?_
    refine ev_m (fun m24 => ?_)
    refine ev_iinc (ls' := [some (.ref 272), none, some (.int (s92.1 + 1))]) (ea_at dt_X12_court 62 rfl) rfl (congrArg (fun z => _ + z) ic_1) (ea_lt rfl) rfl ?_
    refine ev_goto (tgt := 92) (ea_at dt_X12_court 63 rfl) rfl ?_
    exact ev_leaf (fun h => ea_drop (l' := [some (.ref 272), none, some (.int (s92.1 + 1))]) ⟨Or.inr rfl, Or.inl rfl, Or.inr rfl, trivial⟩ (hC (s92.1 + 1, m24) h))
set_option maxHeartbeats 300000 in
theorem jn_X12_court_90 (G : ea_G) {res : ea_O}  (m22 : ea_M)  {Φ : (Int32 × ea_M) → Prop} (hR : ∀ t : Int32 × ea_M, Φ t → res = (0, t)) : ea_E G F_X12_court res 90 [some (.ref 272), none, none] [] m22 0 0 (f_X12_court_j90 m22) Φ := by
  unfold f_X12_court_j90
  refine ev_iconst (ea_at dt_X12_court 49 rfl) ic_0 ?_
  refine ev_istore_n (ls' := [some (.ref 272), none, some (.int 0)]) (ea_at dt_X12_court 50 rfl) (ea_lt rfl) rfl ?_
  refine ev_drop (l' := [some (.ref 272), none, some (.int 0)]) ⟨Or.inr rfl, Or.inl rfl, Or.inr rfl, trivial⟩ ?_
  refine ev_bind (lp_X12_court_92 G   (fun x92s h => ?_) ea_fuel (0, m22))
  obtain ⟨t1, e1, q1⟩ := h
  refine (?_ : ea_E G F_X12_court res 117 [none, none, none] [] x92s 0 0 _ Φ) t1 e1 q1
  refine ev_iconst (ea_at dt_X12_court 64 rfl) ic_0 ?_
  exact ev_iret (ea_at dt_X12_court 65 rfl) rfl ⟨by decide, by decide⟩ (fun h => hR _ h)
set_option maxHeartbeats 300000 in
theorem jn_X12_court_83 (G : ea_G) {res : ea_O}  (x14 : Int32) (m15 : ea_M)  {Φ : (Int32 × ea_M) → Prop} (hR : ∀ t : Int32 × ea_M, Φ t → res = (0, t)) : ea_E G F_X12_court res 83 [some (.ref 272), none, none] [.int x14, .ref 272] m15 0 0 (f_X12_court_j83 x14 m15) Φ := by
  unfold f_X12_court_j83
  refine ev_iconst (ea_at dt_X12_court 46 rfl) ic_2 ?_
  refine ev_clI (F1 := F_X12_throwsIf) (fun rY mY hY => ea_runV (As := [.int x14, .int 2]) (ea_at dt_X12_court 47 rfl) ml_X12_265 mv_X12_throwsIf (ok_X12_throwsIf G x14 2 m15  rY mY hY) sh_272 rfl rfl rfl (Nat.le_of_ble_eq_true rfl) rfl) rfl (fun r17 m16 => ?_)
  refine ev_if_eq (tgt := 119) (ea_at dt_X12_court 48 rfl) rfl (fun _ => ?_) (fun _ => ?_)
  · refine ev_aload_n (ea_at dt_X12_court 66 rfl) rfl ?_
    refine ev_getR (ea_at dt_X12_court 67 rfl) fl_X12_13 sh_272 rfl ?_
    refine ev_iconst (ea_at dt_X12_court 68 rfl) ic_3 ?_
    refine ev_dup2 (ea_at dt_X12_court 69 rfl) rfl rfl ?_
    refine ev_ialoadC (j := 3) (ea_at dt_X12_court 70 rfl) sh_273 (by decide) (by decide) (by decide) (by decide) ?_
    refine ev_i (fun x18 => ?_)
    refine ev_iconst (ea_at dt_X12_court 71 rfl) ic_1 ?_
    refine ev_iadd (ea_at dt_X12_court 72 rfl) ?_
    refine ev_iastoreC (j := 3) (ea_at dt_X12_court 73 rfl) sh_273 (by decide) (by decide) (by decide) (by decide) ?_
    refine ev_m (fun m19 => ?_)
    refine ev_aload_n (ea_at dt_X12_court 74 rfl) rfl ?_
    refine ev_iconst (ea_at dt_X12_court 75 rfl) ic_0 ?_
    refine ev_putI (ea_at dt_X12_court 76 rfl) fl_X12_64 fp_12_7 sh_272 rfl ?_
    refine ev_m (fun m20 => ?_)
    refine ev_aload_n (ea_at dt_X12_court 77 rfl) rfl ?_
    refine ev_getR (ea_at dt_X12_court 78 rfl) fl_X12_13 sh_272 rfl ?_
    refine ev_iconst (ea_at dt_X12_court 79 rfl) ic_3 ?_
    refine ev_ialoadC (j := 3) (ea_at dt_X12_court 80 rfl) sh_273 (by decide) (by decide) (by decide) (by decide) ?_
    refine ev_i (fun x21 => ?_)
    exact ev_iret (ea_at dt_X12_court 81 rfl) rfl ⟨by decide, by decide⟩ (fun h => hR _ h)
  · exact ev_drop (l' := [some (.ref 272), none, none]) ⟨Or.inr rfl, Or.inl rfl, Or.inl rfl, trivial⟩ (jn_X12_court_90 G m16  hR)
set_option maxHeartbeats 300000 in
theorem jn_X12_court_59 (G : ea_G) {res : ea_O}  (x9 : Int32) (m10 : ea_M)  {Φ : (Int32 × ea_M) → Prop} (hR : ∀ t : Int32 × ea_M, Φ t → res = (0, t)) : ea_E G F_X12_court res 59 [some (.ref 272), none, none] [.int x9, .ref 272] m10 0 0 (f_X12_court_j59 x9 m10) Φ := by
  unfold f_X12_court_j59
  refine ev_iconst (ea_at dt_X12_court 33 rfl) ic_1 ?_
  refine ev_clI (F1 := F_X12_throwsIf) (fun rY mY hY => ea_runV (As := [.int x9, .int 1]) (ea_at dt_X12_court 34 rfl) ml_X12_265 mv_X12_throwsIf (ok_X12_throwsIf G x9 1 m10  rY mY hY) sh_272 rfl rfl rfl (Nat.le_of_ble_eq_true rfl) rfl) rfl (fun r12 m11 => ?_)
  refine ev_if_ne (tgt := 90) (ea_at dt_X12_court 35 rfl) rfl (fun _ => ?_) (fun _ => ?_)
  · refine ev_aload_n (ea_at dt_X12_court 36 rfl) rfl ?_
    refine ev_aload_n (ea_at dt_X12_court 37 rfl) rfl ?_
    refine ev_getR (ea_at dt_X12_court 38 rfl) fl_X12_13 sh_272 rfl ?_
    refine ev_iconst (ea_at dt_X12_court 39 rfl) ic_3 ?_
    refine ev_ialoadC (j := 3) (ea_at dt_X12_court 40 rfl) sh_273 (by decide) (by decide) (by decide) (by decide) ?_
    refine ev_i (fun x13 => ?_)
    refine ev_bipush (ea_at dt_X12_court 41 rfl) bp_12 ?_
    refine ev_icmp_ne (tgt := 82) (ea_at dt_X12_court 42 rfl) rfl (fun _ => ?_) (fun _ => ?_)
    · refine ev_iconst (ea_at dt_X12_court 43 rfl) ic_1 ?_
      refine ev_goto (tgt := 83) (ea_at dt_X12_court 44 rfl) rfl ?_
      exact ev_drop (l' := [some (.ref 272), none, none]) ⟨Or.inr rfl, Or.inl rfl, Or.inl rfl, trivial⟩ (jn_X12_court_83 G 1 m11  hR)
    · refine ev_iconst (ea_at dt_X12_court 45 rfl) ic_0 ?_
      exact ev_drop (l' := [some (.ref 272), none, none]) ⟨Or.inr rfl, Or.inl rfl, Or.inl rfl, trivial⟩ (jn_X12_court_83 G 0 m11  hR)
  · exact ev_drop (l' := [some (.ref 272), none, none]) ⟨Or.inr rfl, Or.inl rfl, Or.inl rfl, trivial⟩ (jn_X12_court_90 G m11  hR)
set_option maxHeartbeats 300000 in
theorem jn_X12_court_46 (G : ea_G) {res : ea_O}  (x5 : Int32) (x6 : Int32) (m7 : ea_M)  {Φ : (Int32 × ea_M) → Prop} (hR : ∀ t : Int32 × ea_M, Φ t → res = (0, t)) : ea_E G F_X12_court res 46 [some (.ref 272), some (.int x5), none] [.int x6, .ref 272] m7 0 0 (f_X12_court_j46 x5 x6 m7) Φ := by
  unfold f_X12_court_j46
  refine ev_putI (ea_at dt_X12_court 26 rfl) fl_X12_33 fp_12_14 sh_272 rfl ?_
  refine ev_m (fun m8 => ?_)
  refine ev_aload_n (ea_at dt_X12_court 27 rfl) rfl ?_
  refine ev_iload_n (ea_at dt_X12_court 28 rfl) rfl ?_
  refine ev_if_ge (tgt := 58) (ea_at dt_X12_court 29 rfl) rfl (fun _ => ?_) (fun _ => ?_)
  · refine ev_iconst (ea_at dt_X12_court 32 rfl) ic_0 ?_
    exact ev_drop (l' := [some (.ref 272), none, none]) ⟨Or.inr rfl, Or.inl rfl, Or.inl rfl, trivial⟩ (jn_X12_court_59 G 0 m8  hR)
  · refine ev_iconst (ea_at dt_X12_court 30 rfl) ic_1 ?_
    refine ev_goto (tgt := 59) (ea_at dt_X12_court 31 rfl) rfl ?_
    exact ev_drop (l' := [some (.ref 272), none, none]) ⟨Or.inr rfl, Or.inl rfl, Or.inl rfl, trivial⟩ (jn_X12_court_59 G 1 m8  hR)
set_option maxHeartbeats 300000 in
theorem ok_X12_court (G : ea_G) (m : ea_M)  (rZ : Int32) (mZ : ea_M) (hZ : f_X12_court m = some (rZ, mZ)) : ea_Met G yX12_court F_X12_court [.ref 272] m (0, rZ, mZ) := by
  refine ea_met (F := F_X12_court) (by decide +kernel) rfl rfl (Nat.le_of_ble_eq_true rfl) (by simp only [List.mem_cons, List.not_mem_nil, or_false]; intro v hv; rcases hv with rfl <;> rfl) ((?_ : ea_E G F_X12_court (0, rZ, mZ) 0 [some (.ref 272), none, none] [] m 0 0 (f_X12_court m) (fun t => t = (rZ, mZ))) (rZ, mZ) hZ rfl)
  have hR : ∀ t : Int32 × ea_M, t = (rZ, mZ) → ((0, rZ, mZ) : ea_O) = (0, t) := fun t h => by rw [h]
  unfold f_X12_court
  refine ev_iconst (ea_at dt_X12_court 0 rfl) ic_0 ?_
  refine ev_istore_n (ls' := [some (.ref 272), some (.int 0), none]) (ea_at dt_X12_court 1 rfl) (ea_lt rfl) rfl ?_
  refine ev_drop (l' := [some (.ref 272), some (.int 0), none]) ⟨Or.inr rfl, Or.inr rfl, Or.inl rfl, trivial⟩ ?_
  refine ev_bind (lp_X12_court_2 G   (fun x2s h => ?_) ea_fuel (0, m))
  obtain ⟨t1, e1, q1⟩ := h
  refine (?_ : ea_E G F_X12_court (0, rZ, mZ) 27 [some (.ref 272), none, none] [] x2s 0 0 _ (fun t => t = (rZ, mZ))) t1 e1 q1
  refine ev_aload_n (ea_at dt_X12_court 15 rfl) rfl ?_
  refine ev_iconst (ea_at dt_X12_court 16 rfl) ic_1 ?_
  refine ev_clI (F1 := F_X12_readAll) (fun rY mY hY => ea_runV (As := [.int 1]) (ea_at dt_X12_court 17 rfl) ml_X12_261 mv_X12_readAll (ok_X12_readAll G 1 x2s  rY mY hY) sh_272 rfl rfl rfl (Nat.le_of_ble_eq_true rfl) rfl) rfl (fun r4 m3 => ?_)
  refine ev_istore_n (ls' := [some (.ref 272), some (.int r4), none]) (ea_at dt_X12_court 18 rfl) (ea_lt rfl) rfl ?_
  refine ev_aload_n (ea_at dt_X12_court 19 rfl) rfl ?_
  refine ev_iload_n (ea_at dt_X12_court 20 rfl) rfl ?_
  refine ev_if_ge (tgt := 45) (ea_at dt_X12_court 21 rfl) rfl (fun _ => ?_) (fun _ => ?_)
  · refine ev_iconst (ea_at dt_X12_court 25 rfl) ic_m1 ?_
    exact ev_drop (l' := [some (.ref 272), some (.int r4), none]) ⟨Or.inr rfl, Or.inr rfl, Or.inl rfl, trivial⟩ (jn_X12_court_46 G r4 (-1) m3  hR)
  · refine ev_aload_n (ea_at dt_X12_court 22 rfl) rfl ?_
    refine ev_getI (ea_at dt_X12_court 23 rfl) fl_X12_102 sh_272 rfl ?_
    refine ev_i (fun x25 => ?_)
    refine ev_goto (tgt := 46) (ea_at dt_X12_court 24 rfl) rfl ?_
    exact ev_drop (l' := [some (.ref 272), some (.int r4), none]) ⟨Or.inr rfl, Or.inr rfl, Or.inl rfl, trivial⟩ (jn_X12_court_46 G r4 x25 m3  hR)
def F_X12_law : ea_F := (ea_rm 55 0 0, cX12_law, RX12, some .int, 3, [], 0, 0)
def D_X12_law : List (Nat × Instr × Nat) := [(0, .aload_n 0, 1), (1, .iconst 0, 1), (2, .invokevirtual 261, 3), (5, .istore_n 1, 1), (6, .aload_n 0, 1), (7, .iload_n 1, 1), (8, .ifCond .ge 10, 3), (11, .aload_n 0, 1), (12, .getfield 102, 3), (15, .goto 4, 3), (18, .iconst (-1), 1), (19, .putfield 33, 3), (22, .aload_n 0, 1), (23, .iload_n 1, 1), (24, .ifCond .ge 7, 3), (27, .iconst 1, 1), (28, .goto 4, 3), (31, .iconst 0, 1), (32, .iconst 1, 1), (33, .invokevirtual 265, 3), (36, .ifCond .eq 5, 3), (39, .iconst 0, 1), (40, .ireturn, 1), (41, .aload_n 0, 1), (42, .getfield 13, 3), (45, .sipush 1331, 3), (48, .iload_n 1, 1), (49, .iastore, 1), (50, .iconst 0, 1), (51, .istore_n 2, 1), (52, .iload_n 2, 1), (53, .sipush 849, 3), (56, .if_icmp .ge 29, 3), (59, .aload_n 0, 1), (60, .getfield 13, 3), (63, .sipush 482, 3), (66, .iload_n 2, 1), (67, .iadd, 1), (68, .aload_n 0, 1), (69, .getfield 13, 3), (72, .sipush 1331, 3), (75, .iload_n 2, 1), (76, .iadd, 1), (77, .iaload, 1), (78, .iastore, 1), (79, .iinc 2 1, 3), (82, .goto (-30), 3), (85, .aload_n 0, 1), (86, .getfield 13, 3), (89, .iconst 4, 1), (90, .iconst 1, 1), (91, .iastore, 1), (92, .aload_n 0, 1), (93, .iconst 0, 1), (94, .putfield 64, 3), (97, .iload_n 1, 1), (98, .ireturn, 1)]
theorem dt_X12_law : ∀ q ∈ D_X12_law, decode cX12_law q.1 = .ok q.2 := by decide +kernel
theorem mv_X12_law : ea_MV yX12_law (F_X12_law) 0 := ⟨⟨List.mem_append_right _ (List.mem_of_getElem? (i := 13) (by decide +kernel)), List.mem_append_right _ (List.mem_of_getElem? (i := 1697) (by decide +kernel)), ⟨by decide, by decide⟩, by decide +kernel⟩, List.mem_append_right _ (List.mem_of_getElem? (i := 1695) (by decide +kernel)), List.mem_append_right _ (List.mem_of_getElem? (i := 1696) (by decide +kernel))⟩
def f_X12_law_s52 (x7 : Int32)  (s52 : Int32 × ea_M) : Option ((Int32 × ea_M) ⊕ (ea_M)) :=
  if 849 ≤ s52.1 then
  some (.inr s52.2)
  else
  ea_g (1331 + s52.1) 2180 (ea_bd (s52.2 273 (Int32.toNatClampNeg (1331 + s52.1))) fun x13 =>
  ea_g (482 + s52.1) 2180 (ea_bd (ea_st s52.2 273 (Int32.toNatClampNeg (482 + s52.1)) x13) fun m14 =>
  some (.inl (s52.1 + 1, m14))))
def f_X12_law_j32 (x7 : Int32) (x8 : Int32) (m9 : ea_M) : Option (Int32 × ea_M) :=
  ea_cl (f_X12_throwsIf x8 1 m9) fun r11 m10 =>
  if r11 = 0 then
  ea_bd (ea_st m10 273 1331 x7) fun m12 =>
  (ea_loop (f_X12_law_s52 x7) ea_fuel (0, m12)).bind (fun x52s =>
  ea_bd (ea_st x52s 273 4 1) fun m15 =>
  ea_bd (ea_st m15 272 7 0) fun m16 =>
  some (x7, m16))
  else
  some (0, m10)
def f_X12_law_j19 (x3 : Int32) (x4 : Int32) (m5 : ea_M) : Option (Int32 × ea_M) :=
  ea_bd (ea_st m5 272 14 x4) fun m6 =>
  if 0 ≤ x3 then
  f_X12_law_j32 x3 0 m6
  else
  f_X12_law_j32 x3 1 m6
def f_X12_law (m : ea_M) : Option (Int32 × ea_M) :=
  ea_cl (f_X12_readAll 0 m) fun r2 m1 =>
  if 0 ≤ r2 then
  f_X12_law_j19 r2 (-1) m1
  else
  ea_bd (m1 272 12) fun x17 =>
  f_X12_law_j19 r2 x17 m1
set_option maxHeartbeats 300000 in
theorem lp_X12_law_52 (G : ea_G) {res : ea_O}  (x7 : Int32)  {Ψ : ea_M → Prop} (hX : ∀ x52s : ea_M, Ψ x52s → ea_Ev G F_X12_law res 85 [some (.ref 272), some (.int x7), none] [] x52s 0 0) : ∀ (f : Nat) (s52 : Int32 × ea_M), ea_E G F_X12_law res 52 [some (.ref 272), some (.int x7), some (.int s52.1)] [] s52.2 0 0 (ea_loop (f_X12_law_s52 x7) f s52) Ψ := by
  refine ev_loop (G := G) (F := F_X12_law) (res := res) (pc := 52) (st := []) (k := 0) (n := 0) (step := (f_X12_law_s52 x7)) (Ψ := Ψ) (fun (s52 : Int32 × ea_M) => [some (.ref 272), some (.int x7), some (.int s52.1)]) (fun (s52 : Int32 × ea_M) => s52.2) (fun s52 => ?_)
  have hC : ∀ s52 : Int32 × ea_M, (Sum.elim (fun s52 : Int32 × ea_M => ea_Ev G F_X12_law res 52 [some (.ref 272), some (.int x7), some (.int s52.1)] [] s52.2 0 0) Ψ) (.inl s52) → ea_Ev G F_X12_law res 52 [some (.ref 272), some (.int x7), some (.int s52.1)] [] s52.2 0 0 := fun _ h => h
  have hX : ∀ x52s : ea_M, (Sum.elim (fun s52 : Int32 × ea_M => ea_Ev G F_X12_law res 52 [some (.ref 272), some (.int x7), some (.int s52.1)] [] s52.2 0 0) Ψ) (.inr x52s) → ea_Ev G F_X12_law res 85 [some (.ref 272), some (.int x7), none] [] x52s 0 0 := hX
  unfold f_X12_law_s52
  refine ev_iload_n (ea_at dt_X12_law 30 rfl) rfl ?_
  refine ev_sipush (ea_at dt_X12_law 31 rfl) sp_849 ?_
  refine ev_icmp_ge (tgt := 85) (ea_at dt_X12_law 32 rfl) rfl (fun _ => ?_) (fun _ => ?_)
  · exact ev_leaf (fun h => ea_drop (l' := [some (.ref 272), some (.int x7), none]) ⟨Or.inr rfl, Or.inr rfl, Or.inl rfl, trivial⟩ (hX s52.2 h))
  · refine ev_aload_n (ea_at dt_X12_law 33 rfl) rfl ?_
    refine ev_getR (ea_at dt_X12_law 34 rfl) fl_X12_13 sh_272 rfl ?_
    refine ev_sipush (ea_at dt_X12_law 35 rfl) sp_482 ?_
    refine ev_iload_n (ea_at dt_X12_law 36 rfl) rfl ?_
    refine ev_iadd (ea_at dt_X12_law 37 rfl) ?_
    refine ev_aload_n (ea_at dt_X12_law 38 rfl) rfl ?_
    refine ev_getR (ea_at dt_X12_law 39 rfl) fl_X12_13 sh_272 rfl ?_
    refine ev_sipush (ea_at dt_X12_law 40 rfl) sp_1331 ?_
    refine ev_iload_n (ea_at dt_X12_law 41 rfl) rfl ?_
    refine ev_iadd (ea_at dt_X12_law 42 rfl) ?_
    refine ev_iaload (ea_at dt_X12_law 43 rfl) sh_273 (by decide) ?_
    refine ev_i (fun x13 => ?_)
    refine ev_iastore (ea_at dt_X12_law 44 rfl) sh_273 (by decide) ?_
    refine ev_m (fun m14 => ?_)
    refine ev_iinc (ls' := [some (.ref 272), some (.int x7), some (.int (s52.1 + 1))]) (ea_at dt_X12_law 45 rfl) rfl (congrArg (fun z => _ + z) ic_1) (ea_lt rfl) rfl ?_
    refine ev_goto (tgt := 52) (ea_at dt_X12_law 46 rfl) rfl ?_
    exact ev_leaf (fun h => ea_drop (l' := [some (.ref 272), some (.int x7), some (.int (s52.1 + 1))]) ⟨Or.inr rfl, Or.inr rfl, Or.inr rfl, trivial⟩ (hC (s52.1 + 1, m14) h))
set_option maxHeartbeats 300000 in
theorem jn_X12_law_32 (G : ea_G) {res : ea_O}  (x7 : Int32) (x8 : Int32) (m9 : ea_M)  {Φ : (Int32 × ea_M) → Prop} (hR : ∀ t : Int32 × ea_M, Φ t → res = (0, t)) : ea_E G F_X12_law res 32 [some (.ref 272), some (.int x7), none] [.int x8, .ref 272] m9 0 0 (f_X12_law_j32 x7 x8 m9) Φ := by
  unfold f_X12_law_j32
  refine ev_iconst (ea_at dt_X12_law 18 rfl) ic_1 ?_
  refine ev_clI (F1 := F_X12_throwsIf) (fun rY mY hY => ea_runV (As := [.int x8, .int 1]) (ea_at dt_X12_law 19 rfl) ml_X12_265 mv_X12_throwsIf (ok_X12_throwsIf G x8 1 m9  rY mY hY) sh_272 rfl rfl rfl (Nat.le_of_ble_eq_true rfl) rfl) rfl (fun r11 m10 => ?_)
  refine ev_if_eq (tgt := 41) (ea_at dt_X12_law 20 rfl) rfl (fun _ => ?_) (fun _ => ?_)
  · refine ev_aload_n (ea_at dt_X12_law 23 rfl) rfl ?_
    refine ev_getR (ea_at dt_X12_law 24 rfl) fl_X12_13 sh_272 rfl ?_
    refine ev_sipush (ea_at dt_X12_law 25 rfl) sp_1331 ?_
    refine ev_iload_n (ea_at dt_X12_law 26 rfl) rfl ?_
    refine ev_iastoreC (j := 1331) (ea_at dt_X12_law 27 rfl) sh_273 (by decide) (by decide) (by decide) (by decide) ?_
    refine ev_m (fun m12 => ?_)
    refine ev_iconst (ea_at dt_X12_law 28 rfl) ic_0 ?_
    refine ev_istore_n (ls' := [some (.ref 272), some (.int x7), some (.int 0)]) (ea_at dt_X12_law 29 rfl) (ea_lt rfl) rfl ?_
    refine ev_drop (l' := [some (.ref 272), some (.int x7), some (.int 0)]) ⟨Or.inr rfl, Or.inr rfl, Or.inr rfl, trivial⟩ ?_
    refine ev_bind (lp_X12_law_52 G x7   (fun x52s h => ?_) ea_fuel (0, m12))
    obtain ⟨t1, e1, q1⟩ := h
    refine (?_ : ea_E G F_X12_law res 85 [some (.ref 272), some (.int x7), none] [] x52s 0 0 _ Φ) t1 e1 q1
    refine ev_aload_n (ea_at dt_X12_law 47 rfl) rfl ?_
    refine ev_getR (ea_at dt_X12_law 48 rfl) fl_X12_13 sh_272 rfl ?_
    refine ev_iconst (ea_at dt_X12_law 49 rfl) ic_4 ?_
    refine ev_iconst (ea_at dt_X12_law 50 rfl) ic_1 ?_
    refine ev_iastoreC (j := 4) (ea_at dt_X12_law 51 rfl) sh_273 (by decide) (by decide) (by decide) (by decide) ?_
    refine ev_m (fun m15 => ?_)
    refine ev_aload_n (ea_at dt_X12_law 52 rfl) rfl ?_
    refine ev_iconst (ea_at dt_X12_law 53 rfl) ic_0 ?_
    refine ev_putI (ea_at dt_X12_law 54 rfl) fl_X12_64 fp_12_7 sh_272 rfl ?_
    refine ev_m (fun m16 => ?_)
    refine ev_iload_n (ea_at dt_X12_law 55 rfl) rfl ?_
    exact ev_iret (ea_at dt_X12_law 56 rfl) rfl ⟨by decide, by decide⟩ (fun h => hR _ h)
  · refine ev_iconst (ea_at dt_X12_law 21 rfl) ic_0 ?_
    exact ev_iret (ea_at dt_X12_law 22 rfl) rfl ⟨by decide, by decide⟩ (fun h => hR _ h)
set_option maxHeartbeats 300000 in
theorem jn_X12_law_19 (G : ea_G) {res : ea_O}  (x3 : Int32) (x4 : Int32) (m5 : ea_M)  {Φ : (Int32 × ea_M) → Prop} (hR : ∀ t : Int32 × ea_M, Φ t → res = (0, t)) : ea_E G F_X12_law res 19 [some (.ref 272), some (.int x3), none] [.int x4, .ref 272] m5 0 0 (f_X12_law_j19 x3 x4 m5) Φ := by
  unfold f_X12_law_j19
  refine ev_putI (ea_at dt_X12_law 11 rfl) fl_X12_33 fp_12_14 sh_272 rfl ?_
  refine ev_m (fun m6 => ?_)
  refine ev_aload_n (ea_at dt_X12_law 12 rfl) rfl ?_
  refine ev_iload_n (ea_at dt_X12_law 13 rfl) rfl ?_
  refine ev_if_ge (tgt := 31) (ea_at dt_X12_law 14 rfl) rfl (fun _ => ?_) (fun _ => ?_)
  · refine ev_iconst (ea_at dt_X12_law 17 rfl) ic_0 ?_
    exact ev_drop (l' := [some (.ref 272), some (.int x3), none]) ⟨Or.inr rfl, Or.inr rfl, Or.inl rfl, trivial⟩ (jn_X12_law_32 G x3 0 m6  hR)
  · refine ev_iconst (ea_at dt_X12_law 15 rfl) ic_1 ?_
    refine ev_goto (tgt := 32) (ea_at dt_X12_law 16 rfl) rfl ?_
    exact ev_drop (l' := [some (.ref 272), some (.int x3), none]) ⟨Or.inr rfl, Or.inr rfl, Or.inl rfl, trivial⟩ (jn_X12_law_32 G x3 1 m6  hR)
set_option maxHeartbeats 300000 in
theorem ok_X12_law (G : ea_G) (m : ea_M)  (rZ : Int32) (mZ : ea_M) (hZ : f_X12_law m = some (rZ, mZ)) : ea_Met G yX12_law F_X12_law [.ref 272] m (0, rZ, mZ) := by
  refine ea_met (F := F_X12_law) (by decide +kernel) rfl rfl (Nat.le_of_ble_eq_true rfl) (by simp only [List.mem_cons, List.not_mem_nil, or_false]; intro v hv; rcases hv with rfl <;> rfl) ((?_ : ea_E G F_X12_law (0, rZ, mZ) 0 [some (.ref 272), none, none] [] m 0 0 (f_X12_law m) (fun t => t = (rZ, mZ))) (rZ, mZ) hZ rfl)
  have hR : ∀ t : Int32 × ea_M, t = (rZ, mZ) → ((0, rZ, mZ) : ea_O) = (0, t) := fun t h => by rw [h]
  unfold f_X12_law
  refine ev_aload_n (ea_at dt_X12_law 0 rfl) rfl ?_
  refine ev_iconst (ea_at dt_X12_law 1 rfl) ic_0 ?_
  refine ev_clI (F1 := F_X12_readAll) (fun rY mY hY => ea_runV (As := [.int 0]) (ea_at dt_X12_law 2 rfl) ml_X12_261 mv_X12_readAll (ok_X12_readAll G 0 m  rY mY hY) sh_272 rfl rfl rfl (Nat.le_of_ble_eq_true rfl) rfl) rfl (fun r2 m1 => ?_)
  refine ev_istore_n (ls' := [some (.ref 272), some (.int r2), none]) (ea_at dt_X12_law 3 rfl) (ea_lt rfl) rfl ?_
  refine ev_aload_n (ea_at dt_X12_law 4 rfl) rfl ?_
  refine ev_iload_n (ea_at dt_X12_law 5 rfl) rfl ?_
  refine ev_if_ge (tgt := 18) (ea_at dt_X12_law 6 rfl) rfl (fun _ => ?_) (fun _ => ?_)
  · refine ev_iconst (ea_at dt_X12_law 10 rfl) ic_m1 ?_
    exact ev_drop (l' := [some (.ref 272), some (.int r2), none]) ⟨Or.inr rfl, Or.inr rfl, Or.inl rfl, trivial⟩ (jn_X12_law_19 G r2 (-1) m1  hR)
  · refine ev_aload_n (ea_at dt_X12_law 7 rfl) rfl ?_
    refine ev_getI (ea_at dt_X12_law 8 rfl) fl_X12_102 sh_272 rfl ?_
    refine ev_i (fun x17 => ?_)
    refine ev_goto (tgt := 19) (ea_at dt_X12_law 9 rfl) rfl ?_
    exact ev_drop (l' := [some (.ref 272), some (.int r2), none]) ⟨Or.inr rfl, Or.inr rfl, Or.inl rfl, trivial⟩ (jn_X12_law_19 G r2 x17 m1  hR)
def F_X12_isOver : ea_F := (ea_rm 9 0 0, cX12_isOver, RX12, some .boolean, 2, [], 0, 0)
def D_X12_isOver : List (Nat × Instr × Nat) := [(0, .iload_n 1, 1), (1, .aload_n 0, 1), (2, .getfield 13, 3), (5, .bipush 9, 2), (7, .iaload, 1), (8, .aload_n 0, 1), (9, .getfield 13, 3), (12, .bipush 10, 2), (14, .iaload, 1), (15, .invokestatic 78, 3), (18, .ireturn, 1)]
theorem dt_X12_isOver : ∀ q ∈ D_X12_isOver, decode cX12_isOver q.1 = .ok q.2 := by decide +kernel
theorem mv_X12_isOver : ea_MV yX12_isOver (F_X12_isOver) 1 := ⟨⟨List.mem_append_right _ (List.mem_of_getElem? (i := 13) (by decide +kernel)), List.mem_append_right _ (List.mem_of_getElem? (i := 1739) (by decide +kernel)), ⟨by decide, by decide⟩, by decide +kernel⟩, List.mem_append_right _ (List.mem_of_getElem? (i := 1738) (by decide +kernel)), List.mem_append_left _ (List.mem_of_getElem? (i := 81) (by decide +kernel))⟩
def f_X12_isOver (p1 : Int32) (m : ea_M) : Option (Int32 × ea_M) :=
  ea_bd (m 273 9) fun x1 =>
  ea_bd (m 273 10) fun x2 =>
  ea_cl (f_X12_in p1 x1 x2 m) fun r4 m3 =>
  ea_gz r4 (some (r4, m3))
set_option maxHeartbeats 300000 in
theorem ok_X12_isOver (G : ea_G) (p1 : Int32) (m : ea_M)  (rZ : Int32) (mZ : ea_M) (hZ : f_X12_isOver p1 m = some (rZ, mZ)) : ea_Met G yX12_isOver F_X12_isOver [.ref 272, .int p1] m (0, rZ, mZ) := by
  refine ea_met (F := F_X12_isOver) (by decide +kernel) rfl rfl (Nat.le_of_ble_eq_true rfl) (by simp only [List.mem_cons, List.not_mem_nil, or_false]; intro v hv; rcases hv with rfl | rfl <;> rfl) ((?_ : ea_E G F_X12_isOver (0, rZ, mZ) 0 [some (.ref 272), some (.int p1)] [] m 0 0 (f_X12_isOver p1 m) (fun t => t = (rZ, mZ))) (rZ, mZ) hZ rfl)
  have hR : ∀ t : Int32 × ea_M, t = (rZ, mZ) → ((0, rZ, mZ) : ea_O) = (0, t) := fun t h => by rw [h]
  unfold f_X12_isOver
  refine ev_iload_n (ea_at dt_X12_isOver 0 rfl) rfl ?_
  refine ev_aload_n (ea_at dt_X12_isOver 1 rfl) rfl ?_
  refine ev_getR (ea_at dt_X12_isOver 2 rfl) fl_X12_13 sh_272 rfl ?_
  refine ev_bipush (ea_at dt_X12_isOver 3 rfl) bp_9 ?_
  refine ev_ialoadC (j := 9) (ea_at dt_X12_isOver 4 rfl) sh_273 (by decide) (by decide) (by decide) (by decide) ?_
  refine ev_i (fun x1 => ?_)
  refine ev_aload_n (ea_at dt_X12_isOver 5 rfl) rfl ?_
  refine ev_getR (ea_at dt_X12_isOver 6 rfl) fl_X12_13 sh_272 rfl ?_
  refine ev_bipush (ea_at dt_X12_isOver 7 rfl) bp_10 ?_
  refine ev_ialoadC (j := 10) (ea_at dt_X12_isOver 8 rfl) sh_273 (by decide) (by decide) (by decide) (by decide) ?_
  refine ev_i (fun x2 => ?_)
  refine ev_clI (F1 := F_X12_in) (fun rY mY hY => ea_runS (As := [.int p1, .int x1, .int x2]) (ea_at dt_X12_isOver 9 rfl) ml_X12_78 mv_X12_in (ok_X12_in G p1 x1 x2 m  rY mY hY) rfl rfl (Nat.le_of_ble_eq_true rfl) rfl) rfl (fun r4 m3 => ?_)
  exact ev_zretG (ea_at dt_X12_isOver 10 rfl) rfl ⟨by decide, by decide⟩ (fun h => hR _ h)
def F_X12_factOf : ea_F := (ea_rm 10 0 0, cX12_factOf, RX12, some .int, 3, [], 0, 0)
def D_X12_factOf : List (Nat × Instr × Nat) := [(0, .iload_n 1, 1), (1, .tableswitch 124 0 7 #[47, 52, 57, 62, 72, 80, 85, 107], 47), (48, .aload_n 0, 1), (49, .getfield 268, 3), (52, .ireturn, 1), (53, .aload_n 0, 1), (54, .getfield 271, 3), (57, .ireturn, 1), (58, .aload_n 0, 1), (59, .getfield 274, 3), (62, .ireturn, 1), (63, .aload_n 0, 1), (64, .aload_n 0, 1), (65, .getfield 268, 3), (68, .iconst 1, 1), (69, .invokevirtual 277, 3), (72, .ireturn, 1), (73, .aload_n 0, 1), (74, .getfield 13, 3), (77, .bipush 6, 2), (79, .iaload, 1), (80, .ireturn, 1), (81, .aload_n 0, 1), (82, .getfield 280, 3), (85, .ireturn, 1), (86, .aload_n 0, 1), (87, .getfield 271, 3), (90, .aload_n 0, 1), (91, .getfield 13, 3), (94, .bipush 8, 2), (96, .iaload, 1), (97, .iconst 2, 1), (98, .idiv, 1), (99, .if_icmp .le 7, 3), (102, .iconst 1, 1), (103, .goto 4, 3), (106, .iconst 0, 1), (107, .ireturn, 1), (108, .aload_n 0, 1), (109, .aload_n 0, 1), (110, .getfield 274, 3), (113, .invokevirtual 283, 3), (116, .ifCond .eq 7, 3), (119, .iconst 1, 1), (120, .goto 4, 3), (123, .iconst 0, 1), (124, .ireturn, 1), (125, .iload_n 2, 1), (126, .ireturn, 1)]
theorem dt_X12_factOf : ∀ q ∈ D_X12_factOf, decode cX12_factOf q.1 = .ok q.2 := by decide +kernel
theorem mv_X12_factOf : ea_MV yX12_factOf (F_X12_factOf) 2 := ⟨⟨List.mem_append_right _ (List.mem_of_getElem? (i := 13) (by decide +kernel)), List.mem_append_right _ (List.mem_of_getElem? (i := 1735) (by decide +kernel)), ⟨by decide, by decide⟩, by decide +kernel⟩, List.mem_append_right _ (List.mem_of_getElem? (i := 1734) (by decide +kernel)), List.mem_append_left _ (List.mem_of_getElem? (i := 80) (by decide +kernel))⟩
def f_X12_factOf (p1 : Int32) (p2 : Int32) (m : ea_M) : Option (Int32 × ea_M) :=
  if p1 = 0 then
  ea_bd (m 272 18) fun x1 =>
  some (x1, m)
  else
  if p1 = 1 then
  ea_bd (m 272 19) fun x2 =>
  some (x2, m)
  else
  if p1 = 2 then
  ea_bd (m 272 20) fun x3 =>
  some (x3, m)
  else
  if p1 = 3 then
  ea_bd (m 272 18) fun x4 =>
  ea_cl (f_X12_ofBird x4 1 m) fun r6 m5 =>
  some (r6, m5)
  else
  if p1 = 4 then
  ea_bd (m 273 6) fun x7 =>
  some (x7, m)
  else
  if p1 = 5 then
  ea_bd (m 272 21) fun x8 =>
  some (x8, m)
  else
  if p1 = 6 then
  ea_bd (m 272 19) fun x9 =>
  ea_bd (m 273 8) fun x10 =>
  if x9 ≤ (x10 / 2) then
  some (0, m)
  else
  some (1, m)
  else
  if p1 = 7 then
  ea_bd (m 272 20) fun x11 =>
  ea_cl (f_X12_isOver x11 m) fun r13 m12 =>
  if r13 = 0 then
  some (0, m12)
  else
  some (1, m12)
  else
  some (p2, m)
set_option maxHeartbeats 300000 in
theorem ok_X12_factOf (G : ea_G) (p1 : Int32) (p2 : Int32) (m : ea_M)  (rZ : Int32) (mZ : ea_M) (hZ : f_X12_factOf p1 p2 m = some (rZ, mZ)) : ea_Met G yX12_factOf F_X12_factOf [.ref 272, .int p1, .int p2] m (0, rZ, mZ) := by
  refine ea_met (F := F_X12_factOf) (by decide +kernel) rfl rfl (Nat.le_of_ble_eq_true rfl) (by simp only [List.mem_cons, List.not_mem_nil, or_false]; intro v hv; rcases hv with rfl | rfl | rfl <;> rfl) ((?_ : ea_E G F_X12_factOf (0, rZ, mZ) 0 [some (.ref 272), some (.int p1), some (.int p2)] [] m 0 0 (f_X12_factOf p1 p2 m) (fun t => t = (rZ, mZ))) (rZ, mZ) hZ rfl)
  have hR : ∀ t : Int32 × ea_M, t = (rZ, mZ) → ((0, rZ, mZ) : ea_O) = (0, t) := fun t h => by rw [h]
  unfold f_X12_factOf
  refine ev_iload_n (ea_at dt_X12_factOf 0 rfl) rfl ?_
  refine ev_ite (fun n0 => ?_) (fun n0 => ?_)
  · refine ev_tsw (c := 0) (tgt := 48) n0 (ea_at dt_X12_factOf 1 rfl) (by decide) (by decide) rfl rfl ?_
    refine ev_aload_n (ea_at dt_X12_factOf 2 rfl) rfl ?_
    refine ev_getI (ea_at dt_X12_factOf 3 rfl) fl_X12_268 sh_272 rfl ?_
    refine ev_i (fun x1 => ?_)
    exact ev_iret (ea_at dt_X12_factOf 4 rfl) rfl ⟨by decide, by decide⟩ (fun h => hR _ h)
  · refine ev_ite (fun n1 => ?_) (fun n1 => ?_)
    · refine ev_tsw (c := 1) (tgt := 53) n1 (ea_at dt_X12_factOf 1 rfl) (by decide) (by decide) rfl rfl ?_
      refine ev_aload_n (ea_at dt_X12_factOf 5 rfl) rfl ?_
      refine ev_getI (ea_at dt_X12_factOf 6 rfl) fl_X12_271 sh_272 rfl ?_
      refine ev_i (fun x2 => ?_)
      exact ev_iret (ea_at dt_X12_factOf 7 rfl) rfl ⟨by decide, by decide⟩ (fun h => hR _ h)
    · refine ev_ite (fun n2 => ?_) (fun n2 => ?_)
      · refine ev_tsw (c := 2) (tgt := 58) n2 (ea_at dt_X12_factOf 1 rfl) (by decide) (by decide) rfl rfl ?_
        refine ev_aload_n (ea_at dt_X12_factOf 8 rfl) rfl ?_
        refine ev_getI (ea_at dt_X12_factOf 9 rfl) fl_X12_274 sh_272 rfl ?_
        refine ev_i (fun x3 => ?_)
        exact ev_iret (ea_at dt_X12_factOf 10 rfl) rfl ⟨by decide, by decide⟩ (fun h => hR _ h)
      · refine ev_ite (fun n3 => ?_) (fun n3 => ?_)
        · refine ev_tsw (c := 3) (tgt := 63) n3 (ea_at dt_X12_factOf 1 rfl) (by decide) (by decide) rfl rfl ?_
          refine ev_aload_n (ea_at dt_X12_factOf 11 rfl) rfl ?_
          refine ev_aload_n (ea_at dt_X12_factOf 12 rfl) rfl ?_
          refine ev_getI (ea_at dt_X12_factOf 13 rfl) fl_X12_268 sh_272 rfl ?_
          refine ev_i (fun x4 => ?_)
          refine ev_iconst (ea_at dt_X12_factOf 14 rfl) ic_1 ?_
          refine ev_clI (F1 := F_X12_ofBird) (fun rY mY hY => ea_runV (As := [.int x4, .int 1]) (ea_at dt_X12_factOf 15 rfl) ml_X12_277 mv_X12_ofBird (ok_X12_ofBird G x4 1 m  rY mY hY) sh_272 rfl rfl rfl (Nat.le_of_ble_eq_true rfl) rfl) rfl (fun r6 m5 => ?_)
          exact ev_iret (ea_at dt_X12_factOf 16 rfl) rfl ⟨by decide, by decide⟩ (fun h => hR _ h)
        · refine ev_ite (fun n4 => ?_) (fun n4 => ?_)
          · refine ev_tsw (c := 4) (tgt := 73) n4 (ea_at dt_X12_factOf 1 rfl) (by decide) (by decide) rfl rfl ?_
            refine ev_aload_n (ea_at dt_X12_factOf 17 rfl) rfl ?_
            refine ev_getR (ea_at dt_X12_factOf 18 rfl) fl_X12_13 sh_272 rfl ?_
            refine ev_bipush (ea_at dt_X12_factOf 19 rfl) bp_6 ?_
            refine ev_ialoadC (j := 6) (ea_at dt_X12_factOf 20 rfl) sh_273 (by decide) (by decide) (by decide) (by decide) ?_
            refine ev_i (fun x7 => ?_)
            exact ev_iret (ea_at dt_X12_factOf 21 rfl) rfl ⟨by decide, by decide⟩ (fun h => hR _ h)
          · refine ev_ite (fun n5 => ?_) (fun n5 => ?_)
            · refine ev_tsw (c := 5) (tgt := 81) n5 (ea_at dt_X12_factOf 1 rfl) (by decide) (by decide) rfl rfl ?_
              refine ev_aload_n (ea_at dt_X12_factOf 22 rfl) rfl ?_
              refine ev_getI (ea_at dt_X12_factOf 23 rfl) fl_X12_280 sh_272 rfl ?_
              refine ev_i (fun x8 => ?_)
              exact ev_iret (ea_at dt_X12_factOf 24 rfl) rfl ⟨by decide, by decide⟩ (fun h => hR _ h)
            · refine ev_ite (fun n6 => ?_) (fun n6 => ?_)
              · refine ev_tsw (c := 6) (tgt := 86) n6 (ea_at dt_X12_factOf 1 rfl) (by decide) (by decide) rfl rfl ?_
                refine ev_aload_n (ea_at dt_X12_factOf 25 rfl) rfl ?_
                refine ev_getI (ea_at dt_X12_factOf 26 rfl) fl_X12_271 sh_272 rfl ?_
                refine ev_i (fun x9 => ?_)
                refine ev_aload_n (ea_at dt_X12_factOf 27 rfl) rfl ?_
                refine ev_getR (ea_at dt_X12_factOf 28 rfl) fl_X12_13 sh_272 rfl ?_
                refine ev_bipush (ea_at dt_X12_factOf 29 rfl) bp_8 ?_
                refine ev_ialoadC (j := 8) (ea_at dt_X12_factOf 30 rfl) sh_273 (by decide) (by decide) (by decide) (by decide) ?_
                refine ev_i (fun x10 => ?_)
                refine ev_iconst (ea_at dt_X12_factOf 31 rfl) ic_2 ?_
                refine ev_idiv (ea_at dt_X12_factOf 32 rfl) (by decide) ?_
                refine ev_icmp_le (tgt := 106) (ea_at dt_X12_factOf 33 rfl) rfl (fun _ => ?_) (fun _ => ?_)
                · refine ev_iconst (ea_at dt_X12_factOf 36 rfl) ic_0 ?_
                  exact ev_iret (ea_at dt_X12_factOf 37 rfl) rfl ⟨by decide, by decide⟩ (fun h => hR _ h)
                · refine ev_iconst (ea_at dt_X12_factOf 34 rfl) ic_1 ?_
                  refine ev_goto (tgt := 107) (ea_at dt_X12_factOf 35 rfl) rfl ?_
                  exact ev_iret (ea_at dt_X12_factOf 37 rfl) rfl ⟨by decide, by decide⟩ (fun h => hR _ h)
              · refine ev_ite (fun n7 => ?_) (fun n7 => ?_)
                · refine ev_tsw (c := 7) (tgt := 108) n7 (ea_at dt_X12_factOf 1 rfl) (by decide) (by decide) rfl rfl ?_
                  refine ev_aload_n (ea_at dt_X12_factOf 38 rfl) rfl ?_
                  refine ev_aload_n (ea_at dt_X12_factOf 39 rfl) rfl ?_
                  refine ev_getI (ea_at dt_X12_factOf 40 rfl) fl_X12_274 sh_272 rfl ?_
                  refine ev_i (fun x11 => ?_)
                  refine ev_clI (F1 := F_X12_isOver) (fun rY mY hY => ea_runV (As := [.int x11]) (ea_at dt_X12_factOf 41 rfl) ml_X12_283 mv_X12_isOver (ok_X12_isOver G x11 m  rY mY hY) sh_272 rfl rfl rfl (Nat.le_of_ble_eq_true rfl) rfl) rfl (fun r13 m12 => ?_)
                  refine ev_if_eq (tgt := 123) (ea_at dt_X12_factOf 42 rfl) rfl (fun _ => ?_) (fun _ => ?_)
                  · refine ev_iconst (ea_at dt_X12_factOf 45 rfl) ic_0 ?_
                    exact ev_iret (ea_at dt_X12_factOf 46 rfl) rfl ⟨by decide, by decide⟩ (fun h => hR _ h)
                  · refine ev_iconst (ea_at dt_X12_factOf 43 rfl) ic_1 ?_
                    refine ev_goto (tgt := 124) (ea_at dt_X12_factOf 44 rfl) rfl ?_
                    exact ev_iret (ea_at dt_X12_factOf 46 rfl) rfl ⟨by decide, by decide⟩ (fun h => hR _ h)
                · refine ev_tswOut (cnt := 8) (tgt := 125) (ea_at dt_X12_factOf 1 rfl) rfl (ea_nS (ea_nS (ea_nS (ea_nS (ea_nS (ea_nS (ea_nS (ea_nS (ea_nZ) (v := 0) (by decide) n0) (v := 1) (by decide) n1) (v := 2) (by decide) n2) (v := 3) (by decide) n3) (v := 4) (by decide) n4) (v := 5) (by decide) n5) (v := 6) (by decide) n6) (v := 7) (by decide) n7) rfl ?_
                  refine ev_iload_n (ea_at dt_X12_factOf 47 rfl) rfl ?_
                  exact ev_iret (ea_at dt_X12_factOf 48 rfl) rfl ⟨by decide, by decide⟩ (fun h => hR _ h)
def F_X12_holdsLine : ea_F := (ea_rm 11 0 0, cX12_holdsLine, RX12, some .boolean, 9, [], 0, 0)
def D_X12_holdsLine : List (Nat × Instr × Nat) := [(0, .iconst 0, 1), (1, .istore_n 2, 1), (2, .sipush 483, 3), (5, .iconst 4, 1), (6, .iload_n 1, 1), (7, .imul, 1), (8, .iadd, 1), (9, .istore_n 3, 1), (10, .aload_n 0, 1), (11, .getfield 13, 3), (14, .iload_n 3, 1), (15, .iconst 2, 1), (16, .iadd, 1), (17, .iaload, 1), (18, .istore 4, 2), (20, .iload 4, 2), (22, .aload_n 0, 1), (23, .getfield 13, 3), (26, .iload_n 3, 1), (27, .iconst 3, 1), (28, .iadd, 1), (29, .iaload, 1), (30, .if_icmp .ge 229, 3), (33, .aload_n 0, 1), (34, .getfield 13, 3), (37, .sipush 531, 3), (40, .iconst 2, 1), (41, .iload 4, 2), (43, .imul, 1), (44, .iadd, 1), (45, .iaload, 1), (46, .istore 5, 2), (48, .iload 5, 2), (50, .bipush 8, 2), (52, .if_icmp .gt 36, 3), (55, .aload_n 0, 1), (56, .getfield 39, 3), (59, .iload_n 2, 1), (60, .aload_n 0, 1), (61, .iload 5, 2), (63, .aload_n 0, 1), (64, .getfield 13, 3), (67, .sipush 531, 3), (70, .iconst 2, 1), (71, .iload 4, 2), (73, .imul, 1), (74, .iadd, 1), (75, .iconst 1, 1), (76, .iadd, 1), (77, .iaload, 1), (78, .invokevirtual 286, 3), (81, .iastore, 1), (82, .iinc 2 1, 3), (85, .goto 168, 3), (88, .iload 5, 2), (90, .bipush 12, 2), (92, .if_icmp .ne 24, 3), (95, .aload_n 0, 1), (96, .getfield 39, 3), (99, .iload_n 2, 1), (100, .iconst 1, 1), (101, .isub, 1), (102, .iconst 1, 1), (103, .aload_n 0, 1), (104, .getfield 39, 3), (107, .iload_n 2, 1), (108, .iconst 1, 1), (109, .isub, 1), (110, .iaload, 1), (111, .isub, 1), (112, .iastore, 1), (113, .goto 140, 3), (116, .iinc 2 (-1), 3), (119, .aload_n 0, 1), (120, .getfield 39, 3), (123, .iload_n 2, 1), (124, .iconst 1, 1), (125, .isub, 1), (126, .iaload, 1), (127, .istore 6, 2), (129, .aload_n 0, 1), (130, .getfield 39, 3), (133, .iload_n 2, 1), (134, .iaload, 1), (135, .istore 7, 2), (137, .iload 5, 2), (139, .bipush 10, 2), (141, .if_icmp .ne 18, 3), (144, .iload 6, 2), (146, .iload 7, 2), (148, .if_icmp .ge 7, 3), (151, .iconst 1, 1), (152, .goto 66, 3), (155, .iconst 0, 1), (156, .goto 62, 3), (159, .iload 5, 2), (161, .bipush 11, 2), (163, .if_icmp .ne 18, 3), (166, .iload 6, 2), (168, .iload 7, 2), (170, .if_icmp .le 7, 3), (173, .iconst 1, 1), (174, .goto 44, 3), (177, .iconst 0, 1), (178, .goto 40, 3), (181, .iload 5, 2), (183, .bipush 13, 2), (185, .if_icmp .ne 20, 3), (188, .iload 6, 2), (190, .iload 7, 2), (192, .iadd, 1), (193, .iconst 2, 1), (194, .if_icmp .ne 7, 3), (197, .iconst 1, 1), (198, .goto 20, 3), (201, .iconst 0, 1), (202, .goto 16, 3), (205, .iload 6, 2), (207, .iload 7, 2), (209, .iadd, 1), (210, .ifCond .le 7, 3), (213, .iconst 1, 1), (214, .goto 4, 3), (217, .iconst 0, 1), (218, .istore 8, 2), (220, .aload_n 0, 1), (221, .getfield 39, 3), (224, .iload_n 2, 1), (225, .iconst 1, 1), (226, .isub, 1), (227, .iload 5, 2), (229, .bipush 9, 2), (231, .if_icmp .ne 11, 3), (234, .iload 6, 2), (236, .iload 7, 2), (238, .iadd, 1), (239, .goto 13, 3), (242, .iload 8, 2), (244, .ifCond .eq 7, 3), (247, .iconst 1, 1), (248, .goto 4, 3), (251, .iconst 0, 1), (252, .iastore, 1), (253, .iinc 4 1, 3), (256, .goto (-236), 3), (259, .iload_n 2, 1), (260, .ifCond .eq 13, 3), (263, .aload_n 0, 1), (264, .getfield 39, 3), (267, .iconst 0, 1), (268, .iaload, 1), (269, .iconst 1, 1), (270, .if_icmp .ne 7, 3), (273, .iconst 1, 1), (274, .goto 4, 3), (277, .iconst 0, 1), (278, .ireturn, 1)]
theorem dt_X12_holdsLine : ∀ q ∈ D_X12_holdsLine, decode cX12_holdsLine q.1 = .ok q.2 := by decide +kernel
theorem mv_X12_holdsLine : ea_MV yX12_holdsLine (F_X12_holdsLine) 1 := ⟨⟨List.mem_append_right _ (List.mem_of_getElem? (i := 13) (by decide +kernel)), List.mem_append_right _ (List.mem_of_getElem? (i := 1731) (by decide +kernel)), ⟨by decide, by decide⟩, by decide +kernel⟩, List.mem_append_right _ (List.mem_of_getElem? (i := 1730) (by decide +kernel)), List.mem_append_left _ (List.mem_of_getElem? (i := 79) (by decide +kernel))⟩
def f_X12_holdsLine_j253 (x1 : Int32) (x8 : Int32) (x9 : Int32) (m10 : ea_M) : Option ((Int32 × Int32 × ea_M) ⊕ (Int32 × ea_M)) :=
  some (.inl (x8, x9 + 1, m10))
def f_X12_holdsLine_j252 (x1 : Int32) (x20 : Int32) (x21 : Int32) (x22 : Int32) (x23 : Int32) (m24 : ea_M) : Option ((Int32 × Int32 × ea_M) ⊕ (Int32 × ea_M)) :=
  ea_g x22 400 (ea_bd (ea_st m24 280 (Int32.toNatClampNeg x22) x23) fun m25 =>
  f_X12_holdsLine_j253 x1 x20 x21 m25)
def f_X12_holdsLine_j218 (x1 : Int32) (x13 : Int32) (x14 : Int32) (x15 : Int32) (x16 : Int32) (x17 : Int32) (x18 : Int32) (m19 : ea_M) : Option ((Int32 × Int32 × ea_M) ⊕ (Int32 × ea_M)) :=
  if x15 = 9 then
  f_X12_holdsLine_j252 x1 x13 x14 (x13 - 1) (x16 + x17) m19
  else
  if x18 = 0 then
  f_X12_holdsLine_j252 x1 x13 x14 (x13 - 1) 0 m19
  else
  f_X12_holdsLine_j252 x1 x13 x14 (x13 - 1) 1 m19
def f_X12_holdsLine_s20 (x1 : Int32)  (s20 : Int32 × Int32 × ea_M) : Option ((Int32 × Int32 × ea_M) ⊕ (Int32 × ea_M)) :=
  ea_g (x1 + 3) 2180 (ea_bd (s20.2.2 273 (Int32.toNatClampNeg (x1 + 3))) fun x3 =>
  if x3 ≤ s20.2.1 then
  some (.inr (s20.1, s20.2.2))
  else
  ea_bd (531 + (2 * s20.2.1)) fun x4 =>
  ea_g x4 2180 (ea_bd (s20.2.2 273 (Int32.toNatClampNeg x4)) fun x5 =>
  if 8 < x5 then
  if x5 = 12 then
  ea_g (s20.1 - 1) 400 (ea_bd (s20.2.2 280 (Int32.toNatClampNeg (s20.1 - 1))) fun x6 =>
  ea_g (s20.1 - 1) 400 (ea_bd (ea_st s20.2.2 280 (Int32.toNatClampNeg (s20.1 - 1)) (1 - x6)) fun m7 =>
  f_X12_holdsLine_j253 x1 s20.1 s20.2.1 m7))
  else
  ea_g ((s20.1 + (-1)) - 1) 400 (ea_bd (s20.2.2 280 (Int32.toNatClampNeg ((s20.1 + (-1)) - 1))) fun x11 =>
  ea_g (s20.1 + (-1)) 400 (ea_bd (s20.2.2 280 (Int32.toNatClampNeg (s20.1 + (-1)))) fun x12 =>
  if x5 = 10 then
  if x12 ≤ x11 then
  f_X12_holdsLine_j218 x1 (s20.1 + (-1)) s20.2.1 x5 x11 x12 0 s20.2.2
  else
  f_X12_holdsLine_j218 x1 (s20.1 + (-1)) s20.2.1 x5 x11 x12 1 s20.2.2
  else
  if x5 = 11 then
  if x11 ≤ x12 then
  f_X12_holdsLine_j218 x1 (s20.1 + (-1)) s20.2.1 x5 x11 x12 0 s20.2.2
  else
  f_X12_holdsLine_j218 x1 (s20.1 + (-1)) s20.2.1 x5 x11 x12 1 s20.2.2
  else
  if x5 = 13 then
  if (x11 + x12) = 2 then
  f_X12_holdsLine_j218 x1 (s20.1 + (-1)) s20.2.1 x5 x11 x12 1 s20.2.2
  else
  f_X12_holdsLine_j218 x1 (s20.1 + (-1)) s20.2.1 x5 x11 x12 0 s20.2.2
  else
  if (x11 + x12) ≤ 0 then
  f_X12_holdsLine_j218 x1 (s20.1 + (-1)) s20.2.1 x5 x11 x12 0 s20.2.2
  else
  f_X12_holdsLine_j218 x1 (s20.1 + (-1)) s20.2.1 x5 x11 x12 1 s20.2.2))
  else
  ea_bd (531 + (2 * s20.2.1)) fun x26 =>
  ea_g (x26 + 1) 2180 (ea_bd (s20.2.2 273 (Int32.toNatClampNeg (x26 + 1))) fun x27 =>
  ea_cl (f_X12_factOf x5 x27 s20.2.2) fun r29 m28 =>
  ea_g s20.1 400 (ea_bd (ea_st m28 280 (Int32.toNatClampNeg s20.1) r29) fun m30 =>
  f_X12_holdsLine_j253 x1 (s20.1 + 1) s20.2.1 m30))))
def f_X12_holdsLine_j273 (m31 : ea_M) : Option (Int32 × ea_M) :=
  some (1, m31)
def f_X12_holdsLine (p1 : Int32) (m : ea_M) : Option (Int32 × ea_M) :=
  ea_bd (483 + (4 * p1)) fun x1 =>
  ea_g (x1 + 2) 2180 (ea_bd (m 273 (Int32.toNatClampNeg (x1 + 2))) fun x2 =>
  (ea_loop (f_X12_holdsLine_s20 x1) ea_fuel (0, x2, m)).bind (fun x20s =>
  if x20s.1 = 0 then
  f_X12_holdsLine_j273 x20s.2
  else
  ea_bd (x20s.2 280 0) fun x32 =>
  if x32 = 1 then
  f_X12_holdsLine_j273 x20s.2
  else
  some (0, x20s.2)))
set_option maxHeartbeats 300000 in
theorem jn_X12_holdsLine_253 (G : ea_G) {res : ea_O}  (x1 : Int32) (x8 : Int32) (x9 : Int32) (m10 : ea_M)  {Φ : ((Int32 × Int32 × ea_M) ⊕ (Int32 × ea_M)) → Prop} (hC : ∀ s20 : Int32 × Int32 × ea_M, Φ (.inl s20) → ea_Ev G F_X12_holdsLine res 20 [some (.ref 272), none, some (.int s20.1), some (.int x1), some (.int s20.2.1), none, none, none, none] [] s20.2.2 0 0) (hX : ∀ x20s : Int32 × ea_M, Φ (.inr x20s) → ea_Ev G F_X12_holdsLine res 259 [some (.ref 272), none, some (.int x20s.1), none, none, none, none, none, none] [] x20s.2 0 0) : ea_E G F_X12_holdsLine res 253 [some (.ref 272), none, some (.int x8), some (.int x1), some (.int x9), none, none, none, none] [] m10 0 0 (f_X12_holdsLine_j253 x1 x8 x9 m10) Φ := by
  unfold f_X12_holdsLine_j253
  refine ev_iinc (ls' := [some (.ref 272), none, some (.int x8), some (.int x1), some (.int (x9 + 1)), none, none, none, none]) (ea_at dt_X12_holdsLine 143 rfl) rfl (congrArg (fun z => _ + z) ic_1) (ea_lt rfl) rfl ?_
  refine ev_goto (tgt := 20) (ea_at dt_X12_holdsLine 144 rfl) rfl ?_
  exact ev_leaf (fun h => ea_drop (l' := [some (.ref 272), none, some (.int x8), some (.int x1), some (.int (x9 + 1)), none, none, none, none]) ⟨Or.inr rfl, Or.inl rfl, Or.inr rfl, Or.inr rfl, Or.inr rfl, Or.inl rfl, Or.inl rfl, Or.inl rfl, Or.inl rfl, trivial⟩ (hC (x8, x9 + 1, m10) h))
set_option maxHeartbeats 300000 in
theorem jn_X12_holdsLine_252 (G : ea_G) {res : ea_O}  (x1 : Int32) (x20 : Int32) (x21 : Int32) (x22 : Int32) (x23 : Int32) (m24 : ea_M)  {Φ : ((Int32 × Int32 × ea_M) ⊕ (Int32 × ea_M)) → Prop} (hC : ∀ s20 : Int32 × Int32 × ea_M, Φ (.inl s20) → ea_Ev G F_X12_holdsLine res 20 [some (.ref 272), none, some (.int s20.1), some (.int x1), some (.int s20.2.1), none, none, none, none] [] s20.2.2 0 0) (hX : ∀ x20s : Int32 × ea_M, Φ (.inr x20s) → ea_Ev G F_X12_holdsLine res 259 [some (.ref 272), none, some (.int x20s.1), none, none, none, none, none, none] [] x20s.2 0 0) : ea_E G F_X12_holdsLine res 252 [some (.ref 272), none, some (.int x20), some (.int x1), some (.int x21), none, none, none, none] [.int x23, .int x22, .ref 280] m24 0 0 (f_X12_holdsLine_j252 x1 x20 x21 x22 x23 m24) Φ := by
  unfold f_X12_holdsLine_j252
  refine ev_iastore (ea_at dt_X12_holdsLine 142 rfl) sh_280 (by decide) ?_
  refine ev_m (fun m25 => ?_)
  exact ev_drop (l' := [some (.ref 272), none, some (.int x20), some (.int x1), some (.int x21), none, none, none, none]) ⟨Or.inr rfl, Or.inl rfl, Or.inr rfl, Or.inr rfl, Or.inr rfl, Or.inl rfl, Or.inl rfl, Or.inl rfl, Or.inl rfl, trivial⟩ (jn_X12_holdsLine_253 G x1 x20 x21 m25  hC hX)
set_option maxHeartbeats 300000 in
theorem jn_X12_holdsLine_218 (G : ea_G) {res : ea_O}  (x1 : Int32) (x13 : Int32) (x14 : Int32) (x15 : Int32) (x16 : Int32) (x17 : Int32) (x18 : Int32) (m19 : ea_M)  {Φ : ((Int32 × Int32 × ea_M) ⊕ (Int32 × ea_M)) → Prop} (hC : ∀ s20 : Int32 × Int32 × ea_M, Φ (.inl s20) → ea_Ev G F_X12_holdsLine res 20 [some (.ref 272), none, some (.int s20.1), some (.int x1), some (.int s20.2.1), none, none, none, none] [] s20.2.2 0 0) (hX : ∀ x20s : Int32 × ea_M, Φ (.inr x20s) → ea_Ev G F_X12_holdsLine res 259 [some (.ref 272), none, some (.int x20s.1), none, none, none, none, none, none] [] x20s.2 0 0) : ea_E G F_X12_holdsLine res 218 [some (.ref 272), none, some (.int x13), some (.int x1), some (.int x14), some (.int x15), some (.int x16), some (.int x17), none] [.int x18] m19 0 0 (f_X12_holdsLine_j218 x1 x13 x14 x15 x16 x17 x18 m19) Φ := by
  unfold f_X12_holdsLine_j218
  refine ev_istore (ls' := [some (.ref 272), none, some (.int x13), some (.int x1), some (.int x14), some (.int x15), some (.int x16), some (.int x17), some (.int x18)]) (ea_at dt_X12_holdsLine 124 rfl) (ea_lt rfl) rfl ?_
  refine ev_aload_n (ea_at dt_X12_holdsLine 125 rfl) rfl ?_
  refine ev_getR (ea_at dt_X12_holdsLine 126 rfl) fl_X12_39 sh_272 rfl ?_
  refine ev_iload_n (ea_at dt_X12_holdsLine 127 rfl) rfl ?_
  refine ev_iconst (ea_at dt_X12_holdsLine 128 rfl) ic_1 ?_
  refine ev_isub (ea_at dt_X12_holdsLine 129 rfl) ?_
  refine ev_iload (ea_at dt_X12_holdsLine 130 rfl) rfl ?_
  refine ev_bipush (ea_at dt_X12_holdsLine 131 rfl) bp_9 ?_
  refine ev_icmp_ne (tgt := 242) (ea_at dt_X12_holdsLine 132 rfl) rfl (fun _ => ?_) (fun _ => ?_)
  · refine ev_iload (ea_at dt_X12_holdsLine 133 rfl) rfl ?_
    refine ev_iload (ea_at dt_X12_holdsLine 134 rfl) rfl ?_
    refine ev_iadd (ea_at dt_X12_holdsLine 135 rfl) ?_
    refine ev_goto (tgt := 252) (ea_at dt_X12_holdsLine 136 rfl) rfl ?_
    exact ev_drop (l' := [some (.ref 272), none, some (.int x13), some (.int x1), some (.int x14), none, none, none, none]) ⟨Or.inr rfl, Or.inl rfl, Or.inr rfl, Or.inr rfl, Or.inr rfl, Or.inl rfl, Or.inl rfl, Or.inl rfl, Or.inl rfl, trivial⟩ (jn_X12_holdsLine_252 G x1 x13 x14 (x13 - 1) (x16 + x17) m19  hC hX)
  · refine ev_iload (ea_at dt_X12_holdsLine 137 rfl) rfl ?_
    refine ev_if_eq (tgt := 251) (ea_at dt_X12_holdsLine 138 rfl) rfl (fun _ => ?_) (fun _ => ?_)
    · refine ev_iconst (ea_at dt_X12_holdsLine 141 rfl) ic_0 ?_
      exact ev_drop (l' := [some (.ref 272), none, some (.int x13), some (.int x1), some (.int x14), none, none, none, none]) ⟨Or.inr rfl, Or.inl rfl, Or.inr rfl, Or.inr rfl, Or.inr rfl, Or.inl rfl, Or.inl rfl, Or.inl rfl, Or.inl rfl, trivial⟩ (jn_X12_holdsLine_252 G x1 x13 x14 (x13 - 1) 0 m19  hC hX)
    · refine ev_iconst (ea_at dt_X12_holdsLine 139 rfl) ic_1 ?_
      refine ev_goto (tgt := 252) (ea_at dt_X12_holdsLine 140 rfl) rfl ?_
      exact ev_drop (l' := [some (.ref 272), none, some (.int x13), some (.int x1), some (.int x14), none, none, none, none]) ⟨Or.inr rfl, Or.inl rfl, Or.inr rfl, Or.inr rfl, Or.inr rfl, Or.inl rfl, Or.inl rfl, Or.inl rfl, Or.inl rfl, trivial⟩ (jn_X12_holdsLine_252 G x1 x13 x14 (x13 - 1) 1 m19  hC hX)
set_option maxHeartbeats 300000 in
theorem lp_X12_holdsLine_20 (G : ea_G) {res : ea_O}  (x1 : Int32)  {Ψ : (Int32 × ea_M) → Prop} (hX : ∀ x20s : Int32 × ea_M, Ψ x20s → ea_Ev G F_X12_holdsLine res 259 [some (.ref 272), none, some (.int x20s.1), none, none, none, none, none, none] [] x20s.2 0 0) : ∀ (f : Nat) (s20 : Int32 × Int32 × ea_M), ea_E G F_X12_holdsLine res 20 [some (.ref 272), none, some (.int s20.1), some (.int x1), some (.int s20.2.1), none, none, none, none] [] s20.2.2 0 0 (ea_loop (f_X12_holdsLine_s20 x1) f s20) Ψ := by
  refine ev_loop (G := G) (F := F_X12_holdsLine) (res := res) (pc := 20) (st := []) (k := 0) (n := 0) (step := (f_X12_holdsLine_s20 x1)) (Ψ := Ψ) (fun (s20 : Int32 × Int32 × ea_M) => [some (.ref 272), none, some (.int s20.1), some (.int x1), some (.int s20.2.1), none, none, none, none]) (fun (s20 : Int32 × Int32 × ea_M) => s20.2.2) (fun s20 => ?_)
  have hC : ∀ s20 : Int32 × Int32 × ea_M, (Sum.elim (fun s20 : Int32 × Int32 × ea_M => ea_Ev G F_X12_holdsLine res 20 [some (.ref 272), none, some (.int s20.1), some (.int x1), some (.int s20.2.1), none, none, none, none] [] s20.2.2 0 0) Ψ) (.inl s20) → ea_Ev G F_X12_holdsLine res 20 [some (.ref 272), none, some (.int s20.1), some (.int x1), some (.int s20.2.1), none, none, none, none] [] s20.2.2 0 0 := fun _ h => h
  have hX : ∀ x20s : Int32 × ea_M, (Sum.elim (fun s20 : Int32 × Int32 × ea_M => ea_Ev G F_X12_holdsLine res 20 [some (.ref 272), none, some (.int s20.1), some (.int x1), some (.int s20.2.1), none, none, none, none] [] s20.2.2 0 0) Ψ) (.inr x20s) → ea_Ev G F_X12_holdsLine res 259 [some (.ref 272), none, some (.int x20s.1), none, none, none, none, none, none] [] x20s.2 0 0 := hX
  unfold f_X12_holdsLine_s20
  refine ev_iload (ea_at dt_X12_holdsLine 15 rfl) rfl ?_
  refine ev_aload_n (ea_at dt_X12_holdsLine 16 rfl) rfl ?_
  refine ev_getR (ea_at dt_X12_holdsLine 17 rfl) fl_X12_13 sh_272 rfl ?_
  refine ev_iload_n (ea_at dt_X12_holdsLine 18 rfl) rfl ?_
  refine ev_iconst (ea_at dt_X12_holdsLine 19 rfl) ic_3 ?_
  refine ev_iadd (ea_at dt_X12_holdsLine 20 rfl) ?_
  refine ev_iaload (ea_at dt_X12_holdsLine 21 rfl) sh_273 (by decide) ?_
  refine ev_i (fun x3 => ?_)
  refine ev_icmp_ge (tgt := 259) (ea_at dt_X12_holdsLine 22 rfl) rfl (fun _ => ?_) (fun _ => ?_)
  · exact ev_leaf (fun h => ea_drop (l' := [some (.ref 272), none, some (.int s20.1), none, none, none, none, none, none]) ⟨Or.inr rfl, Or.inl rfl, Or.inr rfl, Or.inl rfl, Or.inl rfl, Or.inl rfl, Or.inl rfl, Or.inl rfl, Or.inl rfl, trivial⟩ (hX (s20.1, s20.2.2) h))
  · refine ev_aload_n (ea_at dt_X12_holdsLine 23 rfl) rfl ?_
    refine ev_getR (ea_at dt_X12_holdsLine 24 rfl) fl_X12_13 sh_272 rfl ?_
    refine ev_sipush (ea_at dt_X12_holdsLine 25 rfl) sp_531 ?_
    refine ev_iconst (ea_at dt_X12_holdsLine 26 rfl) ic_2 ?_
    refine ev_iload (ea_at dt_X12_holdsLine 27 rfl) rfl ?_
    refine ev_imul (ea_at dt_X12_holdsLine 28 rfl) ?_
    refine ev_iadd (ea_at dt_X12_holdsLine 29 rfl) ?_
    refine ev_i (fun x4 => ?_)
    refine ev_iaload (ea_at dt_X12_holdsLine 30 rfl) sh_273 (by decide) ?_
    refine ev_i (fun x5 => ?_)
    refine ev_istore (ls' := [some (.ref 272), none, some (.int s20.1), some (.int x1), some (.int s20.2.1), some (.int x5), none, none, none]) (ea_at dt_X12_holdsLine 31 rfl) (ea_lt rfl) rfl ?_
    refine ev_iload (ea_at dt_X12_holdsLine 32 rfl) rfl ?_
    refine ev_bipush (ea_at dt_X12_holdsLine 33 rfl) bp_8 ?_
    refine ev_icmp_gt (tgt := 88) (ea_at dt_X12_holdsLine 34 rfl) rfl (fun _ => ?_) (fun _ => ?_)
    · refine ev_iload (ea_at dt_X12_holdsLine 54 rfl) rfl ?_
      refine ev_bipush (ea_at dt_X12_holdsLine 55 rfl) bp_12 ?_
      refine ev_icmp_ne (tgt := 116) (ea_at dt_X12_holdsLine 56 rfl) rfl (fun _ => ?_) (fun _ => ?_)
      · refine ev_aload_n (ea_at dt_X12_holdsLine 57 rfl) rfl ?_
        refine ev_getR (ea_at dt_X12_holdsLine 58 rfl) fl_X12_39 sh_272 rfl ?_
        refine ev_iload_n (ea_at dt_X12_holdsLine 59 rfl) rfl ?_
        refine ev_iconst (ea_at dt_X12_holdsLine 60 rfl) ic_1 ?_
        refine ev_isub (ea_at dt_X12_holdsLine 61 rfl) ?_
        refine ev_iconst (ea_at dt_X12_holdsLine 62 rfl) ic_1 ?_
        refine ev_aload_n (ea_at dt_X12_holdsLine 63 rfl) rfl ?_
        refine ev_getR (ea_at dt_X12_holdsLine 64 rfl) fl_X12_39 sh_272 rfl ?_
        refine ev_iload_n (ea_at dt_X12_holdsLine 65 rfl) rfl ?_
        refine ev_iconst (ea_at dt_X12_holdsLine 66 rfl) ic_1 ?_
        refine ev_isub (ea_at dt_X12_holdsLine 67 rfl) ?_
        refine ev_iaload (ea_at dt_X12_holdsLine 68 rfl) sh_280 (by decide) ?_
        refine ev_i (fun x6 => ?_)
        refine ev_isub (ea_at dt_X12_holdsLine 69 rfl) ?_
        refine ev_iastore (ea_at dt_X12_holdsLine 70 rfl) sh_280 (by decide) ?_
        refine ev_m (fun m7 => ?_)
        refine ev_goto (tgt := 253) (ea_at dt_X12_holdsLine 71 rfl) rfl ?_
        exact ev_drop (l' := [some (.ref 272), none, some (.int s20.1), some (.int x1), some (.int s20.2.1), none, none, none, none]) ⟨Or.inr rfl, Or.inl rfl, Or.inr rfl, Or.inr rfl, Or.inr rfl, Or.inl rfl, Or.inl rfl, Or.inl rfl, Or.inl rfl, trivial⟩ (jn_X12_holdsLine_253 G x1 s20.1 s20.2.1 m7  hC hX)
      · refine ev_iinc (ls' := [some (.ref 272), none, some (.int (s20.1 + (-1))), some (.int x1), some (.int s20.2.1), some (.int x5), none, none, none]) (ea_at dt_X12_holdsLine 72 rfl) rfl (congrArg (fun z => _ + z) ic_m1) (ea_lt rfl) rfl ?_
        refine ev_aload_n (ea_at dt_X12_holdsLine 73 rfl) rfl ?_
        refine ev_getR (ea_at dt_X12_holdsLine 74 rfl) fl_X12_39 sh_272 rfl ?_
        refine ev_iload_n (ea_at dt_X12_holdsLine 75 rfl) rfl ?_
        refine ev_iconst (ea_at dt_X12_holdsLine 76 rfl) ic_1 ?_
        refine ev_isub (ea_at dt_X12_holdsLine 77 rfl) ?_
        refine ev_iaload (ea_at dt_X12_holdsLine 78 rfl) sh_280 (by decide) ?_
        refine ev_i (fun x11 => ?_)
        refine ev_istore (ls' := [some (.ref 272), none, some (.int (s20.1 + (-1))), some (.int x1), some (.int s20.2.1), some (.int x5), some (.int x11), none, none]) (ea_at dt_X12_holdsLine 79 rfl) (ea_lt rfl) rfl ?_
        refine ev_aload_n (ea_at dt_X12_holdsLine 80 rfl) rfl ?_
        refine ev_getR (ea_at dt_X12_holdsLine 81 rfl) fl_X12_39 sh_272 rfl ?_
        refine ev_iload_n (ea_at dt_X12_holdsLine 82 rfl) rfl ?_
        refine ev_iaload (ea_at dt_X12_holdsLine 83 rfl) sh_280 (by decide) ?_
        refine ev_i (fun x12 => ?_)
        refine ev_istore (ls' := [some (.ref 272), none, some (.int (s20.1 + (-1))), some (.int x1), some (.int s20.2.1), some (.int x5), some (.int x11), some (.int x12), none]) (ea_at dt_X12_holdsLine 84 rfl) (ea_lt rfl) rfl ?_
        refine ev_iload (ea_at dt_X12_holdsLine 85 rfl) rfl ?_
        refine ev_bipush (ea_at dt_X12_holdsLine 86 rfl) bp_10 ?_
        refine ev_icmp_ne (tgt := 159) (ea_at dt_X12_holdsLine 87 rfl) rfl (fun _ => ?_) (fun _ => ?_)
        · refine ev_iload (ea_at dt_X12_holdsLine 88 rfl) rfl ?_
          refine ev_iload (ea_at dt_X12_holdsLine 89 rfl) rfl ?_
          refine ev_icmp_ge (tgt := 155) (ea_at dt_X12_holdsLine 90 rfl) rfl (fun _ => ?_) (fun _ => ?_)
          · refine ev_iconst (ea_at dt_X12_holdsLine 93 rfl) ic_0 ?_
            refine ev_goto (tgt := 218) (ea_at dt_X12_holdsLine 94 rfl) rfl ?_
            exact ev_drop (l' := [some (.ref 272), none, some (.int (s20.1 + (-1))), some (.int x1), some (.int s20.2.1), some (.int x5), some (.int x11), some (.int x12), none]) ⟨Or.inr rfl, Or.inl rfl, Or.inr rfl, Or.inr rfl, Or.inr rfl, Or.inr rfl, Or.inr rfl, Or.inr rfl, Or.inl rfl, trivial⟩ (jn_X12_holdsLine_218 G x1 (s20.1 + (-1)) s20.2.1 x5 x11 x12 0 s20.2.2  hC hX)
          · refine ev_iconst (ea_at dt_X12_holdsLine 91 rfl) ic_1 ?_
            refine ev_goto (tgt := 218) (ea_at dt_X12_holdsLine 92 rfl) rfl ?_
            exact ev_drop (l' := [some (.ref 272), none, some (.int (s20.1 + (-1))), some (.int x1), some (.int s20.2.1), some (.int x5), some (.int x11), some (.int x12), none]) ⟨Or.inr rfl, Or.inl rfl, Or.inr rfl, Or.inr rfl, Or.inr rfl, Or.inr rfl, Or.inr rfl, Or.inr rfl, Or.inl rfl, trivial⟩ (jn_X12_holdsLine_218 G x1 (s20.1 + (-1)) s20.2.1 x5 x11 x12 1 s20.2.2  hC hX)
        · refine ev_iload (ea_at dt_X12_holdsLine 95 rfl) rfl ?_
          refine ev_bipush (ea_at dt_X12_holdsLine 96 rfl) bp_11 ?_
          refine ev_icmp_ne (tgt := 181) (ea_at dt_X12_holdsLine 97 rfl) rfl (fun _ => ?_) (fun _ => ?_)
          · refine ev_iload (ea_at dt_X12_holdsLine 98 rfl) rfl ?_
            refine ev_iload (ea_at dt_X12_holdsLine 99 rfl) rfl ?_
            refine ev_icmp_le (tgt := 177) (ea_at dt_X12_holdsLine 100 rfl) rfl (fun _ => ?_) (fun _ => ?_)
            · refine ev_iconst (ea_at dt_X12_holdsLine 103 rfl) ic_0 ?_
              refine ev_goto (tgt := 218) (ea_at dt_X12_holdsLine 104 rfl) rfl ?_
              exact ev_drop (l' := [some (.ref 272), none, some (.int (s20.1 + (-1))), some (.int x1), some (.int s20.2.1), some (.int x5), some (.int x11), some (.int x12), none]) ⟨Or.inr rfl, Or.inl rfl, Or.inr rfl, Or.inr rfl, Or.inr rfl, Or.inr rfl, Or.inr rfl, Or.inr rfl, Or.inl rfl, trivial⟩ (jn_X12_holdsLine_218 G x1 (s20.1 + (-1)) s20.2.1 x5 x11 x12 0 s20.2.2  hC hX)
            · refine ev_iconst (ea_at dt_X12_holdsLine 101 rfl) ic_1 ?_
              refine ev_goto (tgt := 218) (ea_at dt_X12_holdsLine 102 rfl) rfl ?_
              exact ev_drop (l' := [some (.ref 272), none, some (.int (s20.1 + (-1))), some (.int x1), some (.int s20.2.1), some (.int x5), some (.int x11), some (.int x12), none]) ⟨Or.inr rfl, Or.inl rfl, Or.inr rfl, Or.inr rfl, Or.inr rfl, Or.inr rfl, Or.inr rfl, Or.inr rfl, Or.inl rfl, trivial⟩ (jn_X12_holdsLine_218 G x1 (s20.1 + (-1)) s20.2.1 x5 x11 x12 1 s20.2.2  hC hX)
          · refine ev_iload (ea_at dt_X12_holdsLine 105 rfl) rfl ?_
            refine ev_bipush (ea_at dt_X12_holdsLine 106 rfl) bp_13 ?_
            refine ev_icmp_ne (tgt := 205) (ea_at dt_X12_holdsLine 107 rfl) rfl (fun _ => ?_) (fun _ => ?_)
            · refine ev_iload (ea_at dt_X12_holdsLine 108 rfl) rfl ?_
              refine ev_iload (ea_at dt_X12_holdsLine 109 rfl) rfl ?_
              refine ev_iadd (ea_at dt_X12_holdsLine 110 rfl) ?_
              refine ev_iconst (ea_at dt_X12_holdsLine 111 rfl) ic_2 ?_
              refine ev_icmp_ne (tgt := 201) (ea_at dt_X12_holdsLine 112 rfl) rfl (fun _ => ?_) (fun _ => ?_)
              · refine ev_iconst (ea_at dt_X12_holdsLine 113 rfl) ic_1 ?_
                refine ev_goto (tgt := 218) (ea_at dt_X12_holdsLine 114 rfl) rfl ?_
                exact ev_drop (l' := [some (.ref 272), none, some (.int (s20.1 + (-1))), some (.int x1), some (.int s20.2.1), some (.int x5), some (.int x11), some (.int x12), none]) ⟨Or.inr rfl, Or.inl rfl, Or.inr rfl, Or.inr rfl, Or.inr rfl, Or.inr rfl, Or.inr rfl, Or.inr rfl, Or.inl rfl, trivial⟩ (jn_X12_holdsLine_218 G x1 (s20.1 + (-1)) s20.2.1 x5 x11 x12 1 s20.2.2  hC hX)
              · refine ev_iconst (ea_at dt_X12_holdsLine 115 rfl) ic_0 ?_
                refine ev_goto (tgt := 218) (ea_at dt_X12_holdsLine 116 rfl) rfl ?_
                exact ev_drop (l' := [some (.ref 272), none, some (.int (s20.1 + (-1))), some (.int x1), some (.int s20.2.1), some (.int x5), some (.int x11), some (.int x12), none]) ⟨Or.inr rfl, Or.inl rfl, Or.inr rfl, Or.inr rfl, Or.inr rfl, Or.inr rfl, Or.inr rfl, Or.inr rfl, Or.inl rfl, trivial⟩ (jn_X12_holdsLine_218 G x1 (s20.1 + (-1)) s20.2.1 x5 x11 x12 0 s20.2.2  hC hX)
            · refine ev_iload (ea_at dt_X12_holdsLine 117 rfl) rfl ?_
              refine ev_iload (ea_at dt_X12_holdsLine 118 rfl) rfl ?_
              refine ev_iadd (ea_at dt_X12_holdsLine 119 rfl) ?_
              refine ev_if_le (tgt := 217) (ea_at dt_X12_holdsLine 120 rfl) rfl (fun _ => ?_) (fun _ => ?_)
              · refine ev_iconst (ea_at dt_X12_holdsLine 123 rfl) ic_0 ?_
                exact ev_drop (l' := [some (.ref 272), none, some (.int (s20.1 + (-1))), some (.int x1), some (.int s20.2.1), some (.int x5), some (.int x11), some (.int x12), none]) ⟨Or.inr rfl, Or.inl rfl, Or.inr rfl, Or.inr rfl, Or.inr rfl, Or.inr rfl, Or.inr rfl, Or.inr rfl, Or.inl rfl, trivial⟩ (jn_X12_holdsLine_218 G x1 (s20.1 + (-1)) s20.2.1 x5 x11 x12 0 s20.2.2  hC hX)
              · refine ev_iconst (ea_at dt_X12_holdsLine 121 rfl) ic_1 ?_
                refine ev_goto (tgt := 218) (ea_at dt_X12_holdsLine 122 rfl) rfl ?_
                exact ev_drop (l' := [some (.ref 272), none, some (.int (s20.1 + (-1))), some (.int x1), some (.int s20.2.1), some (.int x5), some (.int x11), some (.int x12), none]) ⟨Or.inr rfl, Or.inl rfl, Or.inr rfl, Or.inr rfl, Or.inr rfl, Or.inr rfl, Or.inr rfl, Or.inr rfl, Or.inl rfl, trivial⟩ (jn_X12_holdsLine_218 G x1 (s20.1 + (-1)) s20.2.1 x5 x11 x12 1 s20.2.2  hC hX)
    · refine ev_aload_n (ea_at dt_X12_holdsLine 35 rfl) rfl ?_
      refine ev_getR (ea_at dt_X12_holdsLine 36 rfl) fl_X12_39 sh_272 rfl ?_
      refine ev_iload_n (ea_at dt_X12_holdsLine 37 rfl) rfl ?_
      refine ev_aload_n (ea_at dt_X12_holdsLine 38 rfl) rfl ?_
      refine ev_iload (ea_at dt_X12_holdsLine 39 rfl) rfl ?_
      refine ev_aload_n (ea_at dt_X12_holdsLine 40 rfl) rfl ?_
      refine ev_getR (ea_at dt_X12_holdsLine 41 rfl) fl_X12_13 sh_272 rfl ?_
      refine ev_sipush (ea_at dt_X12_holdsLine 42 rfl) sp_531 ?_
      refine ev_iconst (ea_at dt_X12_holdsLine 43 rfl) ic_2 ?_
      refine ev_iload (ea_at dt_X12_holdsLine 44 rfl) rfl ?_
      refine ev_imul (ea_at dt_X12_holdsLine 45 rfl) ?_
      refine ev_iadd (ea_at dt_X12_holdsLine 46 rfl) ?_
      refine ev_i (fun x26 => ?_)
      refine ev_iconst (ea_at dt_X12_holdsLine 47 rfl) ic_1 ?_
      refine ev_iadd (ea_at dt_X12_holdsLine 48 rfl) ?_
      refine ev_iaload (ea_at dt_X12_holdsLine 49 rfl) sh_273 (by decide) ?_
      refine ev_i (fun x27 => ?_)
      refine ev_clI (F1 := F_X12_factOf) (fun rY mY hY => ea_runV (As := [.int x5, .int x27]) (ea_at dt_X12_holdsLine 50 rfl) ml_X12_286 mv_X12_factOf (ok_X12_factOf G x5 x27 s20.2.2  rY mY hY) sh_272 rfl rfl rfl (Nat.le_of_ble_eq_true rfl) rfl) rfl (fun r29 m28 => ?_)
      refine ev_iastore (ea_at dt_X12_holdsLine 51 rfl) sh_280 (by decide) ?_
      refine ev_m (fun m30 => ?_)
      refine ev_iinc (ls' := [some (.ref 272), none, some (.int (s20.1 + 1)), some (.int x1), some (.int s20.2.1), some (.int x5), none, none, none]) (ea_at dt_X12_holdsLine 52 rfl) rfl (congrArg (fun z => _ + z) ic_1) (ea_lt rfl) rfl ?_
      refine ev_goto (tgt := 253) (ea_at dt_X12_holdsLine 53 rfl) rfl ?_
      exact ev_drop (l' := [some (.ref 272), none, some (.int (s20.1 + 1)), some (.int x1), some (.int s20.2.1), none, none, none, none]) ⟨Or.inr rfl, Or.inl rfl, Or.inr rfl, Or.inr rfl, Or.inr rfl, Or.inl rfl, Or.inl rfl, Or.inl rfl, Or.inl rfl, trivial⟩ (jn_X12_holdsLine_253 G x1 (s20.1 + 1) s20.2.1 m30  hC hX)
set_option maxHeartbeats 300000 in
theorem jn_X12_holdsLine_273 (G : ea_G) {res : ea_O}  (m31 : ea_M)  {Φ : (Int32 × ea_M) → Prop} (hR : ∀ t : Int32 × ea_M, Φ t → res = (0, t)) : ea_E G F_X12_holdsLine res 273 [none, none, none, none, none, none, none, none, none] [] m31 0 0 (f_X12_holdsLine_j273 m31) Φ := by
  unfold f_X12_holdsLine_j273
  refine ev_iconst (ea_at dt_X12_holdsLine 153 rfl) ic_1 ?_
  refine ev_goto (tgt := 278) (ea_at dt_X12_holdsLine 154 rfl) rfl ?_
  exact ev_zret (by decide) (ea_at dt_X12_holdsLine 156 rfl) rfl ⟨by decide, by decide⟩ (fun h => hR _ h)
set_option maxHeartbeats 300000 in
theorem ok_X12_holdsLine (G : ea_G) (p1 : Int32) (m : ea_M)  (rZ : Int32) (mZ : ea_M) (hZ : f_X12_holdsLine p1 m = some (rZ, mZ)) : ea_Met G yX12_holdsLine F_X12_holdsLine [.ref 272, .int p1] m (0, rZ, mZ) := by
  refine ea_met (F := F_X12_holdsLine) (by decide +kernel) rfl rfl (Nat.le_of_ble_eq_true rfl) (by simp only [List.mem_cons, List.not_mem_nil, or_false]; intro v hv; rcases hv with rfl | rfl <;> rfl) ((?_ : ea_E G F_X12_holdsLine (0, rZ, mZ) 0 [some (.ref 272), some (.int p1), none, none, none, none, none, none, none] [] m 0 0 (f_X12_holdsLine p1 m) (fun t => t = (rZ, mZ))) (rZ, mZ) hZ rfl)
  have hR : ∀ t : Int32 × ea_M, t = (rZ, mZ) → ((0, rZ, mZ) : ea_O) = (0, t) := fun t h => by rw [h]
  unfold f_X12_holdsLine
  refine ev_iconst (ea_at dt_X12_holdsLine 0 rfl) ic_0 ?_
  refine ev_istore_n (ls' := [some (.ref 272), some (.int p1), some (.int 0), none, none, none, none, none, none]) (ea_at dt_X12_holdsLine 1 rfl) (ea_lt rfl) rfl ?_
  refine ev_sipush (ea_at dt_X12_holdsLine 2 rfl) sp_483 ?_
  refine ev_iconst (ea_at dt_X12_holdsLine 3 rfl) ic_4 ?_
  refine ev_iload_n (ea_at dt_X12_holdsLine 4 rfl) rfl ?_
  refine ev_imul (ea_at dt_X12_holdsLine 5 rfl) ?_
  refine ev_iadd (ea_at dt_X12_holdsLine 6 rfl) ?_
  refine ev_i (fun x1 => ?_)
  refine ev_istore_n (ls' := [some (.ref 272), some (.int p1), some (.int 0), some (.int x1), none, none, none, none, none]) (ea_at dt_X12_holdsLine 7 rfl) (ea_lt rfl) rfl ?_
  refine ev_aload_n (ea_at dt_X12_holdsLine 8 rfl) rfl ?_
  refine ev_getR (ea_at dt_X12_holdsLine 9 rfl) fl_X12_13 sh_272 rfl ?_
  refine ev_iload_n (ea_at dt_X12_holdsLine 10 rfl) rfl ?_
  refine ev_iconst (ea_at dt_X12_holdsLine 11 rfl) ic_2 ?_
  refine ev_iadd (ea_at dt_X12_holdsLine 12 rfl) ?_
  refine ev_iaload (ea_at dt_X12_holdsLine 13 rfl) sh_273 (by decide) ?_
  refine ev_i (fun x2 => ?_)
  refine ev_istore (ls' := [some (.ref 272), some (.int p1), some (.int 0), some (.int x1), some (.int x2), none, none, none, none]) (ea_at dt_X12_holdsLine 14 rfl) (ea_lt rfl) rfl ?_
  refine ev_drop (l' := [some (.ref 272), none, some (.int 0), some (.int x1), some (.int x2), none, none, none, none]) ⟨Or.inr rfl, Or.inl rfl, Or.inr rfl, Or.inr rfl, Or.inr rfl, Or.inl rfl, Or.inl rfl, Or.inl rfl, Or.inl rfl, trivial⟩ ?_
  refine ev_bind (lp_X12_holdsLine_20 G x1   (fun x20s h => ?_) ea_fuel (0, x2, m))
  obtain ⟨t1, e1, q1⟩ := h
  refine (?_ : ea_E G F_X12_holdsLine (0, rZ, mZ) 259 [some (.ref 272), none, some (.int x20s.1), none, none, none, none, none, none] [] x20s.2 0 0 _ (fun t => t = (rZ, mZ))) t1 e1 q1
  refine ev_iload_n (ea_at dt_X12_holdsLine 145 rfl) rfl ?_
  refine ev_if_eq (tgt := 273) (ea_at dt_X12_holdsLine 146 rfl) rfl (fun _ => ?_) (fun _ => ?_)
  · exact ev_drop (l' := [none, none, none, none, none, none, none, none, none]) ⟨Or.inl rfl, Or.inl rfl, Or.inl rfl, Or.inl rfl, Or.inl rfl, Or.inl rfl, Or.inl rfl, Or.inl rfl, Or.inl rfl, trivial⟩ (jn_X12_holdsLine_273 G x20s.2  hR)
  · refine ev_aload_n (ea_at dt_X12_holdsLine 147 rfl) rfl ?_
    refine ev_getR (ea_at dt_X12_holdsLine 148 rfl) fl_X12_39 sh_272 rfl ?_
    refine ev_iconst (ea_at dt_X12_holdsLine 149 rfl) ic_0 ?_
    refine ev_ialoadC (j := 0) (ea_at dt_X12_holdsLine 150 rfl) sh_280 (by decide) (by decide) (by decide) (by decide) ?_
    refine ev_i (fun x32 => ?_)
    refine ev_iconst (ea_at dt_X12_holdsLine 151 rfl) ic_1 ?_
    refine ev_icmp_ne (tgt := 277) (ea_at dt_X12_holdsLine 152 rfl) rfl (fun _ => ?_) (fun _ => ?_)
    · exact ev_drop (l' := [none, none, none, none, none, none, none, none, none]) ⟨Or.inl rfl, Or.inl rfl, Or.inl rfl, Or.inl rfl, Or.inl rfl, Or.inl rfl, Or.inl rfl, Or.inl rfl, Or.inl rfl, trivial⟩ (jn_X12_holdsLine_273 G x20s.2  hR)
    · refine ev_iconst (ea_at dt_X12_holdsLine 155 rfl) ic_0 ?_
      exact ev_zret (by decide) (ea_at dt_X12_holdsLine 156 rfl) rfl ⟨by decide, by decide⟩ (fun h => hR _ h)
