def F_X12_surest : ea_F := (ea_rm 18 0 0, cX12_surest, RX12, some .int, 9, [], 0, 0)
def D_X12_surest : List (Nat × Instr × Nat) := [(0, .aload_n 0, 1), (1, .iconst 0, 1), (2, .putfield 3, 3), (5, .aload_n 0, 1), (6, .aload_n 0, 1), (7, .iload_n 1, 1), (8, .invokevirtual 396, 3), (11, .iconst 1, 1), (12, .invokevirtual 265, 3), (15, .ifCond .ne 24, 3), (18, .aload_n 0, 1), (19, .aload_n 0, 1), (20, .iload_n 1, 1), (21, .invokevirtual 407, 3), (24, .ifCond .ne 7, 3), (27, .iconst 1, 1), (28, .goto 4, 3), (31, .iconst 0, 1), (32, .iconst 2, 1), (33, .invokevirtual 265, 3), (36, .ifCond .eq 5, 3), (39, .iconst 0, 1), (40, .ireturn, 1), (41, .aload_n 0, 1), (42, .iload_n 1, 1), (43, .iload_n 2, 1), (44, .ifCond .eq 7, 3), (47, .iconst 1, 1), (48, .goto 4, 3), (51, .iconst 0, 1), (52, .invokevirtual 399, 3), (55, .istore 4, 2), (57, .aload_n 0, 1), (58, .iload_n 1, 1), (59, .iload_n 2, 1), (60, .ifCond .eq 7, 3), (63, .iconst 0, 1), (64, .goto 4, 3), (67, .iconst 1, 1), (68, .invokevirtual 399, 3), (71, .istore 5, 2), (73, .iload 4, 2), (75, .ifCond .eq 8, 3), (78, .iload 5, 2), (80, .ifCond .ne 5, 3), (83, .iconst (-1), 1), (84, .ireturn, 1), (85, .aload_n 0, 1), (86, .invokevirtual 378, 3), (89, .iconst (-1), 1), (90, .istore 6, 2), (92, .iconst (-1), 1), (93, .istore 7, 2), (95, .iconst 0, 1), (96, .istore 8, 2), (98, .iload 8, 2), (100, .aload_n 0, 1), (101, .invokevirtual 74, 3), (104, .if_icmp .ge 49, 3), (107, .iload 4, 2), (109, .iload 8, 2), (111, .invokestatic 127, 3), (114, .ifCond .eq 33, 3), (117, .aload_n 0, 1), (118, .iload 8, 2), (120, .iload 5, 2), (122, .invokevirtual 410, 3), (125, .iload 7, 2), (127, .if_icmp .gt 6, 3), (130, .goto 17, 3), (133, .iload 8, 2), (135, .istore 6, 2), (137, .aload_n 0, 1), (138, .iload 8, 2), (140, .iload 5, 2), (142, .invokevirtual 410, 3), (145, .istore 7, 2), (147, .iinc 8 1, 3), (150, .goto (-52), 3), (153, .iload_n 3, 1), (154, .ifCond .eq 8, 3), (157, .iload 7, 2), (159, .goto 5, 3), (162, .iload 6, 2), (164, .ireturn, 1)]
theorem dt_X12_surest : ∀ q ∈ D_X12_surest, decode cX12_surest q.1 = .ok q.2 := by decide +kernel
theorem mv_X12_surest : ea_MV yX12_surest (F_X12_surest) 3 := ⟨⟨List.mem_append_right _ (List.mem_of_getElem? (i := 13) (by decide +kernel)), List.mem_append_right _ (List.mem_of_getElem? (i := 1891) (by decide +kernel)), ⟨by decide, by decide⟩, by decide +kernel⟩, List.mem_append_right _ (List.mem_of_getElem? (i := 1889) (by decide +kernel)), List.mem_append_right _ (List.mem_of_getElem? (i := 1890) (by decide +kernel))⟩
def f_X12_surest_j147 (p3 : Int32) (x17 : Int32) (r22 : Int32) (x29 : Int32) (x30 : Int32) (x31 : Int32) (m32 : ea_M) : Option ((Int32 × Int32 × Int32 × ea_M) ⊕ (Int32 × Int32 × ea_M)) :=
  some (.inl (x29, x30, x31 + 1, m32))
def f_X12_surest_s98 (p3 : Int32) (x17 : Int32) (r22 : Int32)  (s98 : Int32 × Int32 × Int32 × ea_M) : Option ((Int32 × Int32 × Int32 × ea_M) ⊕ (Int32 × Int32 × ea_M)) :=
  ea_cl (f_X12_birds s98.2.2.2) fun r26 m25 =>
  if r26 ≤ s98.2.2.1 then
  some (.inr (s98.1, s98.2.1, m25))
  else
  ea_cl (f_X12_has x17 s98.2.2.1 m25) fun r28 m27 =>
  if r28 = 0 then
  f_X12_surest_j147 p3 x17 r22 s98.1 s98.2.1 s98.2.2.1 m27
  else
  ea_cl (f_X12_leastBy s98.2.2.1 r22 m27) fun r34 m33 =>
  if s98.2.1 < r34 then
  ea_cl (f_X12_leastBy s98.2.2.1 r22 m33) fun r36 m35 =>
  f_X12_surest_j147 p3 x17 r22 s98.2.2.1 r36 s98.2.2.1 m35
  else
  f_X12_surest_j147 p3 x17 r22 s98.1 s98.2.1 s98.2.2.1 m33
def f_X12_surest_j68 (p3 : Int32) (x17 : Int32) (x18 : Int32) (x19 : Int32) (m20 : ea_M) : Option (Int32 × ea_M) :=
  ea_cl (f_X12_choices x18 x19 m20) fun r22 m21 =>
  if x17 = 0 then
  some ((-1), m21)
  else
  if r22 = 0 then
  some ((-1), m21)
  else
  ea_cl (f_X12_laysAllGoods m21) fun r24 m23 =>
  (ea_loop (f_X12_surest_s98 p3 x17 r22) ea_fuel ((-1), (-1), 0, m23)).bind (fun x98s =>
  if p3 = 0 then
  some (x98s.1, x98s.2.2)
  else
  some (x98s.2.1, x98s.2.2))
def f_X12_surest_j52 (p1 : Int32) (p2 : Int32) (p3 : Int32) (x12 : Int32) (x13 : Int32) (m14 : ea_M) : Option (Int32 × ea_M) :=
  ea_cl (f_X12_choices x12 x13 m14) fun r16 m15 =>
  if p2 = 0 then
  f_X12_surest_j68 p3 r16 p1 1 m15
  else
  f_X12_surest_j68 p3 r16 p1 0 m15
def f_X12_surest_j32 (p1 : Int32) (p2 : Int32) (p3 : Int32) (x8 : Int32) (m9 : ea_M) : Option (Int32 × ea_M) :=
  ea_cl (f_X12_throwsIf x8 2 m9) fun r11 m10 =>
  if r11 = 0 then
  if p2 = 0 then
  f_X12_surest_j52 p1 p2 p3 p1 0 m10
  else
  f_X12_surest_j52 p1 p2 p3 p1 1 m10
  else
  some (0, m10)
def f_X12_surest (p1 : Int32) (p2 : Int32) (p3 : Int32) (m : ea_M) : Option (Int32 × ea_M) :=
  ea_bd (ea_st m 272 0 0) fun m1 =>
  ea_cl (f_X12_noCase p1 m1) fun r3 m2 =>
  ea_cl (f_X12_throwsIf r3 1 m2) fun r5 m4 =>
  if r5 = 0 then
  ea_cl (f_X12_isOpen p1 m4) fun r7 m6 =>
  if r7 = 0 then
  f_X12_surest_j32 p1 p2 p3 1 m6
  else
  f_X12_surest_j32 p1 p2 p3 0 m6
  else
  some (0, m4)
set_option maxHeartbeats 300000 in
theorem jn_X12_surest_147 (G : ea_G) {res : ea_O}  (p3 : Int32) (x17 : Int32) (r22 : Int32) (x29 : Int32) (x30 : Int32) (x31 : Int32) (m32 : ea_M)  {Φ : ((Int32 × Int32 × Int32 × ea_M) ⊕ (Int32 × Int32 × ea_M)) → Prop} (hC : ∀ s98 : Int32 × Int32 × Int32 × ea_M, Φ (.inl s98) → ea_Ev G F_X12_surest res 98 [some (.ref 272), none, none, some (.int p3), some (.int x17), some (.int r22), some (.int s98.1), some (.int s98.2.1), some (.int s98.2.2.1)] [] s98.2.2.2 0 0) (hX : ∀ x98s : Int32 × Int32 × ea_M, Φ (.inr x98s) → ea_Ev G F_X12_surest res 153 [none, none, none, some (.int p3), none, none, some (.int x98s.1), some (.int x98s.2.1), none] [] x98s.2.2 0 0) : ea_E G F_X12_surest res 147 [some (.ref 272), none, none, some (.int p3), some (.int x17), some (.int r22), some (.int x29), some (.int x30), some (.int x31)] [] m32 0 0 (f_X12_surest_j147 p3 x17 r22 x29 x30 x31 m32) Φ := by
  unfold f_X12_surest_j147
  refine ev_iinc (ls' := [some (.ref 272), none, none, some (.int p3), some (.int x17), some (.int r22), some (.int x29), some (.int x30), some (.int (x31 + 1))]) (ea_at dt_X12_surest 77 rfl) rfl (congrArg (fun z => _ + z) ic_1) (ea_lt rfl) rfl ?_
  refine ev_goto (tgt := 98) (ea_at dt_X12_surest 78 rfl) rfl ?_
  exact ev_leaf (fun h => ea_drop (l' := [some (.ref 272), none, none, some (.int p3), some (.int x17), some (.int r22), some (.int x29), some (.int x30), some (.int (x31 + 1))]) ⟨Or.inr rfl, Or.inl rfl, Or.inl rfl, Or.inr rfl, Or.inr rfl, Or.inr rfl, Or.inr rfl, Or.inr rfl, Or.inr rfl, trivial⟩ (hC (x29, x30, x31 + 1, m32) h))
set_option maxHeartbeats 300000 in
theorem lp_X12_surest_98 (G : ea_G) {res : ea_O}  (p3 : Int32) (x17 : Int32) (r22 : Int32)  {Ψ : (Int32 × Int32 × ea_M) → Prop} (hX : ∀ x98s : Int32 × Int32 × ea_M, Ψ x98s → ea_Ev G F_X12_surest res 153 [none, none, none, some (.int p3), none, none, some (.int x98s.1), some (.int x98s.2.1), none] [] x98s.2.2 0 0) : ∀ (f : Nat) (s98 : Int32 × Int32 × Int32 × ea_M), ea_E G F_X12_surest res 98 [some (.ref 272), none, none, some (.int p3), some (.int x17), some (.int r22), some (.int s98.1), some (.int s98.2.1), some (.int s98.2.2.1)] [] s98.2.2.2 0 0 (ea_loop (f_X12_surest_s98 p3 x17 r22) f s98) Ψ := by
  refine ev_loop (G := G) (F := F_X12_surest) (res := res) (pc := 98) (st := []) (k := 0) (n := 0) (step := (f_X12_surest_s98 p3 x17 r22)) (Ψ := Ψ) (fun (s98 : Int32 × Int32 × Int32 × ea_M) => [some (.ref 272), none, none, some (.int p3), some (.int x17), some (.int r22), some (.int s98.1), some (.int s98.2.1), some (.int s98.2.2.1)]) (fun (s98 : Int32 × Int32 × Int32 × ea_M) => s98.2.2.2) (fun s98 => ?_)
  have hC : ∀ s98 : Int32 × Int32 × Int32 × ea_M, (Sum.elim (fun s98 : Int32 × Int32 × Int32 × ea_M => ea_Ev G F_X12_surest res 98 [some (.ref 272), none, none, some (.int p3), some (.int x17), some (.int r22), some (.int s98.1), some (.int s98.2.1), some (.int s98.2.2.1)] [] s98.2.2.2 0 0) Ψ) (.inl s98) → ea_Ev G F_X12_surest res 98 [some (.ref 272), none, none, some (.int p3), some (.int x17), some (.int r22), some (.int s98.1), some (.int s98.2.1), some (.int s98.2.2.1)] [] s98.2.2.2 0 0 := fun _ h => h
  have hX : ∀ x98s : Int32 × Int32 × ea_M, (Sum.elim (fun s98 : Int32 × Int32 × Int32 × ea_M => ea_Ev G F_X12_surest res 98 [some (.ref 272), none, none, some (.int p3), some (.int x17), some (.int r22), some (.int s98.1), some (.int s98.2.1), some (.int s98.2.2.1)] [] s98.2.2.2 0 0) Ψ) (.inr x98s) → ea_Ev G F_X12_surest res 153 [none, none, none, some (.int p3), none, none, some (.int x98s.1), some (.int x98s.2.1), none] [] x98s.2.2 0 0 := hX
  unfold f_X12_surest_s98
  refine ev_iload (ea_at dt_X12_surest 55 rfl) rfl ?_
  refine ev_aload_n (ea_at dt_X12_surest 56 rfl) rfl ?_
  refine ev_clI (F1 := F_X12_birds) (fun rY mY hY => ea_runV (As := []) (ea_at dt_X12_surest 57 rfl) ml_X12_74 mv_X12_birds (ok_X12_birds G s98.2.2.2  rY mY hY) sh_272 rfl rfl rfl (Nat.le_of_ble_eq_true rfl) rfl) rfl (fun r26 m25 => ?_)
  refine ev_icmp_ge (tgt := 153) (ea_at dt_X12_surest 58 rfl) rfl (fun _ => ?_) (fun _ => ?_)
  · exact ev_leaf (fun h => ea_drop (l' := [none, none, none, some (.int p3), none, none, some (.int s98.1), some (.int s98.2.1), none]) ⟨Or.inl rfl, Or.inl rfl, Or.inl rfl, Or.inr rfl, Or.inl rfl, Or.inl rfl, Or.inr rfl, Or.inr rfl, Or.inl rfl, trivial⟩ (hX (s98.1, s98.2.1, m25) h))
  · refine ev_iload (ea_at dt_X12_surest 59 rfl) rfl ?_
    refine ev_iload (ea_at dt_X12_surest 60 rfl) rfl ?_
    refine ev_clI (F1 := F_X12_has) (fun rY mY hY => ea_runS (As := [.int x17, .int s98.2.2.1]) (ea_at dt_X12_surest 61 rfl) ml_X12_127 mv_X12_has (ok_X12_has G x17 s98.2.2.1 m25  rY mY hY) rfl rfl (Nat.le_of_ble_eq_true rfl) rfl) rfl (fun r28 m27 => ?_)
    refine ev_if_eq (tgt := 147) (ea_at dt_X12_surest 62 rfl) rfl (fun _ => ?_) (fun _ => ?_)
    · exact ev_drop (l' := [some (.ref 272), none, none, some (.int p3), some (.int x17), some (.int r22), some (.int s98.1), some (.int s98.2.1), some (.int s98.2.2.1)]) ⟨Or.inr rfl, Or.inl rfl, Or.inl rfl, Or.inr rfl, Or.inr rfl, Or.inr rfl, Or.inr rfl, Or.inr rfl, Or.inr rfl, trivial⟩ (jn_X12_surest_147 G p3 x17 r22 s98.1 s98.2.1 s98.2.2.1 m27  hC hX)
    · refine ev_aload_n (ea_at dt_X12_surest 63 rfl) rfl ?_
      refine ev_iload (ea_at dt_X12_surest 64 rfl) rfl ?_
      refine ev_iload (ea_at dt_X12_surest 65 rfl) rfl ?_
      refine ev_clI (F1 := F_X12_leastBy) (fun rY mY hY => ea_runV (As := [.int s98.2.2.1, .int r22]) (ea_at dt_X12_surest 66 rfl) ml_X12_410 mv_X12_leastBy (ok_X12_leastBy G s98.2.2.1 r22 m27  rY mY hY) sh_272 rfl rfl rfl (Nat.le_of_ble_eq_true rfl) rfl) rfl (fun r34 m33 => ?_)
      refine ev_iload (ea_at dt_X12_surest 67 rfl) rfl ?_
      refine ev_icmp_gt (tgt := 133) (ea_at dt_X12_surest 68 rfl) rfl (fun _ => ?_) (fun _ => ?_)
      · refine ev_iload (ea_at dt_X12_surest 70 rfl) rfl ?_
        refine ev_istore (ls' := [some (.ref 272), none, none, some (.int p3), some (.int x17), some (.int r22), some (.int s98.2.2.1), some (.int s98.2.1), some (.int s98.2.2.1)]) (ea_at dt_X12_surest 71 rfl) (ea_lt rfl) rfl ?_
        refine ev_aload_n (ea_at dt_X12_surest 72 rfl) rfl ?_
        refine ev_iload (ea_at dt_X12_surest 73 rfl) rfl ?_
        refine ev_iload (ea_at dt_X12_surest 74 rfl) rfl ?_
        refine ev_clI (F1 := F_X12_leastBy) (fun rY mY hY => ea_runV (As := [.int s98.2.2.1, .int r22]) (ea_at dt_X12_surest 75 rfl) ml_X12_410 mv_X12_leastBy (ok_X12_leastBy G s98.2.2.1 r22 m33  rY mY hY) sh_272 rfl rfl rfl (Nat.le_of_ble_eq_true rfl) rfl) rfl (fun r36 m35 => ?_)
        refine ev_istore (ls' := [some (.ref 272), none, none, some (.int p3), some (.int x17), some (.int r22), some (.int s98.2.2.1), some (.int r36), some (.int s98.2.2.1)]) (ea_at dt_X12_surest 76 rfl) (ea_lt rfl) rfl ?_
        exact ev_drop (l' := [some (.ref 272), none, none, some (.int p3), some (.int x17), some (.int r22), some (.int s98.2.2.1), some (.int r36), some (.int s98.2.2.1)]) ⟨Or.inr rfl, Or.inl rfl, Or.inl rfl, Or.inr rfl, Or.inr rfl, Or.inr rfl, Or.inr rfl, Or.inr rfl, Or.inr rfl, trivial⟩ (jn_X12_surest_147 G p3 x17 r22 s98.2.2.1 r36 s98.2.2.1 m35  hC hX)
      · refine ev_goto (tgt := 147) (ea_at dt_X12_surest 69 rfl) rfl ?_
        exact ev_drop (l' := [some (.ref 272), none, none, some (.int p3), some (.int x17), some (.int r22), some (.int s98.1), some (.int s98.2.1), some (.int s98.2.2.1)]) ⟨Or.inr rfl, Or.inl rfl, Or.inl rfl, Or.inr rfl, Or.inr rfl, Or.inr rfl, Or.inr rfl, Or.inr rfl, Or.inr rfl, trivial⟩ (jn_X12_surest_147 G p3 x17 r22 s98.1 s98.2.1 s98.2.2.1 m33  hC hX)
set_option maxHeartbeats 300000 in
theorem jn_X12_surest_68 (G : ea_G) {res : ea_O}  (p3 : Int32) (x17 : Int32) (x18 : Int32) (x19 : Int32) (m20 : ea_M)  {Φ : (Int32 × ea_M) → Prop} (hR : ∀ t : Int32 × ea_M, Φ t → res = (0, t)) : ea_E G F_X12_surest res 68 [some (.ref 272), none, none, some (.int p3), some (.int x17), none, none, none, none] [.int x19, .int x18, .ref 272] m20 0 0 (f_X12_surest_j68 p3 x17 x18 x19 m20) Φ := by
  unfold f_X12_surest_j68
  refine ev_clI (F1 := F_X12_choices) (fun rY mY hY => ea_runV (As := [.int x18, .int x19]) (ea_at dt_X12_surest 39 rfl) ml_X12_399 mv_X12_choices (ok_X12_choices G x18 x19 m20  rY mY hY) sh_272 rfl rfl rfl (Nat.le_of_ble_eq_true rfl) rfl) rfl (fun r22 m21 => ?_)
  refine ev_istore (ls' := [some (.ref 272), none, none, some (.int p3), some (.int x17), some (.int r22), none, none, none]) (ea_at dt_X12_surest 40 rfl) (ea_lt rfl) rfl ?_
  refine ev_iload (ea_at dt_X12_surest 41 rfl) rfl ?_
  refine ev_if_eq (tgt := 83) (ea_at dt_X12_surest 42 rfl) rfl (fun _ => ?_) (fun _ => ?_)
  · refine ev_iconst (ea_at dt_X12_surest 45 rfl) ic_m1 ?_
    exact ev_iret (ea_at dt_X12_surest 46 rfl) rfl ⟨by decide, by decide⟩ (fun h => hR _ h)
  · refine ev_iload (ea_at dt_X12_surest 43 rfl) rfl ?_
    refine ev_if_ne (tgt := 85) (ea_at dt_X12_surest 44 rfl) rfl (fun _ => ?_) (fun _ => ?_)
    · refine ev_iconst (ea_at dt_X12_surest 45 rfl) ic_m1 ?_
      exact ev_iret (ea_at dt_X12_surest 46 rfl) rfl ⟨by decide, by decide⟩ (fun h => hR _ h)
    · refine ev_aload_n (ea_at dt_X12_surest 47 rfl) rfl ?_
      refine ev_clU (F1 := F_X12_laysAllGoods) (fun rY mY hY => ea_runV (As := []) (ea_at dt_X12_surest 48 rfl) ml_X12_378 mv_X12_laysAllGoods (ok_X12_laysAllGoods G m21  rY mY hY) sh_272 rfl rfl rfl (Nat.le_of_ble_eq_true rfl) rfl) rfl (fun r24 m23 => ?_)
      refine ev_iconst (ea_at dt_X12_surest 49 rfl) ic_m1 ?_
      refine ev_istore (ls' := [some (.ref 272), none, none, some (.int p3), some (.int x17), some (.int r22), some (.int (-1)), none, none]) (ea_at dt_X12_surest 50 rfl) (ea_lt rfl) rfl ?_
      refine ev_iconst (ea_at dt_X12_surest 51 rfl) ic_m1 ?_
      refine ev_istore (ls' := [some (.ref 272), none, none, some (.int p3), some (.int x17), some (.int r22), some (.int (-1)), some (.int (-1)), none]) (ea_at dt_X12_surest 52 rfl) (ea_lt rfl) rfl ?_
      refine ev_iconst (ea_at dt_X12_surest 53 rfl) ic_0 ?_
      refine ev_istore (ls' := [some (.ref 272), none, none, some (.int p3), some (.int x17), some (.int r22), some (.int (-1)), some (.int (-1)), some (.int 0)]) (ea_at dt_X12_surest 54 rfl) (ea_lt rfl) rfl ?_
      refine ev_drop (l' := [some (.ref 272), none, none, some (.int p3), some (.int x17), some (.int r22), some (.int (-1)), some (.int (-1)), some (.int 0)]) ⟨Or.inr rfl, Or.inl rfl, Or.inl rfl, Or.inr rfl, Or.inr rfl, Or.inr rfl, Or.inr rfl, Or.inr rfl, Or.inr rfl, trivial⟩ ?_
      refine ev_bind (lp_X12_surest_98 G p3 x17 r22   (fun x98s h => ?_) ea_fuel ((-1), (-1), 0, m23))
      obtain ⟨t1, e1, q1⟩ := h
      refine (?_ : ea_E G F_X12_surest res 153 [none, none, none, some (.int p3), none, none, some (.int x98s.1), some (.int x98s.2.1), none] [] x98s.2.2 0 0 _ Φ) t1 e1 q1
      refine ev_iload_n (ea_at dt_X12_surest 79 rfl) rfl ?_
      refine ev_if_eq (tgt := 162) (ea_at dt_X12_surest 80 rfl) rfl (fun _ => ?_) (fun _ => ?_)
      · refine ev_iload (ea_at dt_X12_surest 83 rfl) rfl ?_
        exact ev_iret (ea_at dt_X12_surest 84 rfl) rfl ⟨by decide, by decide⟩ (fun h => hR _ h)
      · refine ev_iload (ea_at dt_X12_surest 81 rfl) rfl ?_
        refine ev_goto (tgt := 164) (ea_at dt_X12_surest 82 rfl) rfl ?_
        exact ev_iret (ea_at dt_X12_surest 84 rfl) rfl ⟨by decide, by decide⟩ (fun h => hR _ h)
set_option maxHeartbeats 300000 in
theorem jn_X12_surest_52 (G : ea_G) {res : ea_O}  (p1 : Int32) (p2 : Int32) (p3 : Int32) (x12 : Int32) (x13 : Int32) (m14 : ea_M)  {Φ : (Int32 × ea_M) → Prop} (hR : ∀ t : Int32 × ea_M, Φ t → res = (0, t)) : ea_E G F_X12_surest res 52 [some (.ref 272), some (.int p1), some (.int p2), some (.int p3), none, none, none, none, none] [.int x13, .int x12, .ref 272] m14 0 0 (f_X12_surest_j52 p1 p2 p3 x12 x13 m14) Φ := by
  unfold f_X12_surest_j52
  refine ev_clI (F1 := F_X12_choices) (fun rY mY hY => ea_runV (As := [.int x12, .int x13]) (ea_at dt_X12_surest 30 rfl) ml_X12_399 mv_X12_choices (ok_X12_choices G x12 x13 m14  rY mY hY) sh_272 rfl rfl rfl (Nat.le_of_ble_eq_true rfl) rfl) rfl (fun r16 m15 => ?_)
  refine ev_istore (ls' := [some (.ref 272), some (.int p1), some (.int p2), some (.int p3), some (.int r16), none, none, none, none]) (ea_at dt_X12_surest 31 rfl) (ea_lt rfl) rfl ?_
  refine ev_aload_n (ea_at dt_X12_surest 32 rfl) rfl ?_
  refine ev_iload_n (ea_at dt_X12_surest 33 rfl) rfl ?_
  refine ev_iload_n (ea_at dt_X12_surest 34 rfl) rfl ?_
  refine ev_if_eq (tgt := 67) (ea_at dt_X12_surest 35 rfl) rfl (fun _ => ?_) (fun _ => ?_)
  · refine ev_iconst (ea_at dt_X12_surest 38 rfl) ic_1 ?_
    exact ev_drop (l' := [some (.ref 272), none, none, some (.int p3), some (.int r16), none, none, none, none]) ⟨Or.inr rfl, Or.inl rfl, Or.inl rfl, Or.inr rfl, Or.inr rfl, Or.inl rfl, Or.inl rfl, Or.inl rfl, Or.inl rfl, trivial⟩ (jn_X12_surest_68 G p3 r16 p1 1 m15  hR)
  · refine ev_iconst (ea_at dt_X12_surest 36 rfl) ic_0 ?_
    refine ev_goto (tgt := 68) (ea_at dt_X12_surest 37 rfl) rfl ?_
    exact ev_drop (l' := [some (.ref 272), none, none, some (.int p3), some (.int r16), none, none, none, none]) ⟨Or.inr rfl, Or.inl rfl, Or.inl rfl, Or.inr rfl, Or.inr rfl, Or.inl rfl, Or.inl rfl, Or.inl rfl, Or.inl rfl, trivial⟩ (jn_X12_surest_68 G p3 r16 p1 0 m15  hR)
set_option maxHeartbeats 300000 in
theorem jn_X12_surest_32 (G : ea_G) {res : ea_O}  (p1 : Int32) (p2 : Int32) (p3 : Int32) (x8 : Int32) (m9 : ea_M)  {Φ : (Int32 × ea_M) → Prop} (hR : ∀ t : Int32 × ea_M, Φ t → res = (0, t)) : ea_E G F_X12_surest res 32 [some (.ref 272), some (.int p1), some (.int p2), some (.int p3), none, none, none, none, none] [.int x8, .ref 272] m9 0 0 (f_X12_surest_j32 p1 p2 p3 x8 m9) Φ := by
  unfold f_X12_surest_j32
  refine ev_iconst (ea_at dt_X12_surest 18 rfl) ic_2 ?_
  refine ev_clI (F1 := F_X12_throwsIf) (fun rY mY hY => ea_runV (As := [.int x8, .int 2]) (ea_at dt_X12_surest 19 rfl) ml_X12_265 mv_X12_throwsIf (ok_X12_throwsIf G x8 2 m9  rY mY hY) sh_272 rfl rfl rfl (Nat.le_of_ble_eq_true rfl) rfl) rfl (fun r11 m10 => ?_)
  refine ev_if_eq (tgt := 41) (ea_at dt_X12_surest 20 rfl) rfl (fun _ => ?_) (fun _ => ?_)
  · refine ev_aload_n (ea_at dt_X12_surest 23 rfl) rfl ?_
    refine ev_iload_n (ea_at dt_X12_surest 24 rfl) rfl ?_
    refine ev_iload_n (ea_at dt_X12_surest 25 rfl) rfl ?_
    refine ev_if_eq (tgt := 51) (ea_at dt_X12_surest 26 rfl) rfl (fun _ => ?_) (fun _ => ?_)
    · refine ev_iconst (ea_at dt_X12_surest 29 rfl) ic_0 ?_
      exact ev_drop (l' := [some (.ref 272), some (.int p1), some (.int p2), some (.int p3), none, none, none, none, none]) ⟨Or.inr rfl, Or.inr rfl, Or.inr rfl, Or.inr rfl, Or.inl rfl, Or.inl rfl, Or.inl rfl, Or.inl rfl, Or.inl rfl, trivial⟩ (jn_X12_surest_52 G p1 p2 p3 p1 0 m10  hR)
    · refine ev_iconst (ea_at dt_X12_surest 27 rfl) ic_1 ?_
      refine ev_goto (tgt := 52) (ea_at dt_X12_surest 28 rfl) rfl ?_
      exact ev_drop (l' := [some (.ref 272), some (.int p1), some (.int p2), some (.int p3), none, none, none, none, none]) ⟨Or.inr rfl, Or.inr rfl, Or.inr rfl, Or.inr rfl, Or.inl rfl, Or.inl rfl, Or.inl rfl, Or.inl rfl, Or.inl rfl, trivial⟩ (jn_X12_surest_52 G p1 p2 p3 p1 1 m10  hR)
  · refine ev_iconst (ea_at dt_X12_surest 21 rfl) ic_0 ?_
    exact ev_iret (ea_at dt_X12_surest 22 rfl) rfl ⟨by decide, by decide⟩ (fun h => hR _ h)
set_option maxHeartbeats 300000 in
theorem ok_X12_surest (G : ea_G) (p1 : Int32) (p2 : Int32) (p3 : Int32) (m : ea_M)  (rZ : Int32) (mZ : ea_M) (hZ : f_X12_surest p1 p2 p3 m = some (rZ, mZ)) : ea_Met G yX12_surest F_X12_surest [.ref 272, .int p1, .int p2, .int p3] m (0, rZ, mZ) := by
  refine ea_met (F := F_X12_surest) (by decide +kernel) rfl rfl (Nat.le_of_ble_eq_true rfl) (by simp only [List.mem_cons, List.not_mem_nil, or_false]; intro v hv; rcases hv with rfl | rfl | rfl | rfl <;> rfl) ((?_ : ea_E G F_X12_surest (0, rZ, mZ) 0 [some (.ref 272), some (.int p1), some (.int p2), some (.int p3), none, none, none, none, none] [] m 0 0 (f_X12_surest p1 p2 p3 m) (fun t => t = (rZ, mZ))) (rZ, mZ) hZ rfl)
  have hR : ∀ t : Int32 × ea_M, t = (rZ, mZ) → ((0, rZ, mZ) : ea_O) = (0, t) := fun t h => by rw [h]
  unfold f_X12_surest
  refine ev_aload_n (ea_at dt_X12_surest 0 rfl) rfl ?_
  refine ev_iconst (ea_at dt_X12_surest 1 rfl) ic_0 ?_
  refine ev_putI (ea_at dt_X12_surest 2 rfl) fl_X12_3 fp_12_0 sh_272 rfl ?_
  refine ev_m (fun m1 => ?_)
  refine ev_aload_n (ea_at dt_X12_surest 3 rfl) rfl ?_
  refine ev_aload_n (ea_at dt_X12_surest 4 rfl) rfl ?_
  refine ev_iload_n (ea_at dt_X12_surest 5 rfl) rfl ?_
  refine ev_clI (F1 := F_X12_noCase) (fun rY mY hY => ea_runV (As := [.int p1]) (ea_at dt_X12_surest 6 rfl) ml_X12_396 mv_X12_noCase (ok_X12_noCase G p1 m1  rY mY hY) sh_272 rfl rfl rfl (Nat.le_of_ble_eq_true rfl) rfl) rfl (fun r3 m2 => ?_)
  refine ev_iconst (ea_at dt_X12_surest 7 rfl) ic_1 ?_
  refine ev_clI (F1 := F_X12_throwsIf) (fun rY mY hY => ea_runV (As := [.int r3, .int 1]) (ea_at dt_X12_surest 8 rfl) ml_X12_265 mv_X12_throwsIf (ok_X12_throwsIf G r3 1 m2  rY mY hY) sh_272 rfl rfl rfl (Nat.le_of_ble_eq_true rfl) rfl) rfl (fun r5 m4 => ?_)
  refine ev_if_ne (tgt := 39) (ea_at dt_X12_surest 9 rfl) rfl (fun _ => ?_) (fun _ => ?_)
  · refine ev_aload_n (ea_at dt_X12_surest 10 rfl) rfl ?_
    refine ev_aload_n (ea_at dt_X12_surest 11 rfl) rfl ?_
    refine ev_iload_n (ea_at dt_X12_surest 12 rfl) rfl ?_
    refine ev_clI (F1 := F_X12_isOpen) (fun rY mY hY => ea_runV (As := [.int p1]) (ea_at dt_X12_surest 13 rfl) ml_X12_407 mv_X12_isOpen (ok_X12_isOpen G p1 m4  rY mY hY) sh_272 rfl rfl rfl (Nat.le_of_ble_eq_true rfl) rfl) rfl (fun r7 m6 => ?_)
    refine ev_if_ne (tgt := 31) (ea_at dt_X12_surest 14 rfl) rfl (fun _ => ?_) (fun _ => ?_)
    · refine ev_iconst (ea_at dt_X12_surest 15 rfl) ic_1 ?_
      refine ev_goto (tgt := 32) (ea_at dt_X12_surest 16 rfl) rfl ?_
      exact ev_drop (l' := [some (.ref 272), some (.int p1), some (.int p2), some (.int p3), none, none, none, none, none]) ⟨Or.inr rfl, Or.inr rfl, Or.inr rfl, Or.inr rfl, Or.inl rfl, Or.inl rfl, Or.inl rfl, Or.inl rfl, Or.inl rfl, trivial⟩ (jn_X12_surest_32 G p1 p2 p3 1 m6  hR)
    · refine ev_iconst (ea_at dt_X12_surest 17 rfl) ic_0 ?_
      exact ev_drop (l' := [some (.ref 272), some (.int p1), some (.int p2), some (.int p3), none, none, none, none, none]) ⟨Or.inr rfl, Or.inr rfl, Or.inr rfl, Or.inr rfl, Or.inl rfl, Or.inl rfl, Or.inl rfl, Or.inl rfl, Or.inl rfl, trivial⟩ (jn_X12_surest_32 G p1 p2 p3 0 m6  hR)
  · refine ev_iconst (ea_at dt_X12_surest 21 rfl) ic_0 ?_
    exact ev_iret (ea_at dt_X12_surest 22 rfl) rfl ⟨by decide, by decide⟩ (fun h => hR _ h)
def F_X12_isBestOf : ea_F := (ea_rm 11 0 0, cX12_isBestOf, RX12, some .boolean, 5, [], 0, 0)
def D_X12_isBestOf : List (Nat × Instr × Nat) := [(0, .iconst 0, 1), (1, .istore 4, 2), (3, .iload 4, 2), (5, .aload_n 0, 1), (6, .invokevirtual 74, 3), (9, .if_icmp .ge 36, 3), (12, .iload_n 3, 1), (13, .iload 4, 2), (15, .invokestatic 127, 3), (18, .ifCond .eq 21, 3), (21, .aload_n 0, 1), (22, .iload 4, 2), (24, .iload_n 2, 1), (25, .invokevirtual 381, 3), (28, .aload_n 0, 1), (29, .iload_n 1, 1), (30, .iload_n 2, 1), (31, .invokevirtual 381, 3), (34, .if_icmp .le 5, 3), (37, .iconst 0, 1), (38, .ireturn, 1), (39, .iinc 4 1, 3), (42, .goto (-39), 3), (45, .iconst 1, 1), (46, .ireturn, 1)]
theorem dt_X12_isBestOf : ∀ q ∈ D_X12_isBestOf, decode cX12_isBestOf q.1 = .ok q.2 := by decide +kernel
theorem mv_X12_isBestOf : ea_MV yX12_isBestOf (F_X12_isBestOf) 3 := ⟨⟨List.mem_append_right _ (List.mem_of_getElem? (i := 13) (by decide +kernel)), List.mem_append_right _ (List.mem_of_getElem? (i := 1910) (by decide +kernel)), ⟨by decide, by decide⟩, by decide +kernel⟩, List.mem_append_right _ (List.mem_of_getElem? (i := 1909) (by decide +kernel)), List.mem_append_left _ (List.mem_of_getElem? (i := 105) (by decide +kernel))⟩
def f_X12_isBestOf_j39 (p1 : Int32) (p2 : Int32) (p3 : Int32) (x5 : Int32) (m6 : ea_M) : Option ((Int32 × ea_M) ⊕ ((Int32 × ea_M) ⊕ (ea_M))) :=
  some (.inl (x5 + 1, m6))
def f_X12_isBestOf_s3 (p1 : Int32) (p2 : Int32) (p3 : Int32)  (s3 : Int32 × ea_M) : Option ((Int32 × ea_M) ⊕ ((Int32 × ea_M) ⊕ (ea_M))) :=
  ea_cl (f_X12_birds s3.2) fun r2 m1 =>
  if r2 ≤ s3.1 then
  some (.inr (.inr m1))
  else
  ea_cl (f_X12_has p3 s3.1 m1) fun r4 m3 =>
  if r4 = 0 then
  f_X12_isBestOf_j39 p1 p2 p3 s3.1 m3
  else
  ea_cl (f_X12_firstHas s3.1 p2 m3) fun r8 m7 =>
  ea_cl (f_X12_firstHas p1 p2 m7) fun r10 m9 =>
  if r8 ≤ r10 then
  f_X12_isBestOf_j39 p1 p2 p3 s3.1 m9
  else
  some (.inr (.inl (0, m9)))
def f_X12_isBestOf (p1 : Int32) (p2 : Int32) (p3 : Int32) (m : ea_M) : Option (Int32 × ea_M) :=
  ea_sl (ea_loop (f_X12_isBestOf_s3 p1 p2 p3) ea_fuel (0, m)) (fun t => some t) (fun x3s =>
  some (1, x3s))
set_option maxHeartbeats 300000 in
theorem jn_X12_isBestOf_39 (G : ea_G) {res : ea_O}  (p1 : Int32) (p2 : Int32) (p3 : Int32) (x5 : Int32) (m6 : ea_M)  {Φ : ((Int32 × ea_M) ⊕ ((Int32 × ea_M) ⊕ (ea_M))) → Prop} (hC : ∀ s3 : Int32 × ea_M, Φ (.inl s3) → ea_Ev G F_X12_isBestOf res 3 [some (.ref 272), some (.int p1), some (.int p2), some (.int p3), some (.int s3.1)] [] s3.2 0 0) (hR : ∀ t : Int32 × ea_M, Φ (.inr (.inl t)) → res = (0, t)) (hX : ∀ x3s : ea_M, Φ (.inr (.inr x3s)) → ea_Ev G F_X12_isBestOf res 45 [none, none, none, none, none] [] x3s 0 0) : ea_E G F_X12_isBestOf res 39 [some (.ref 272), some (.int p1), some (.int p2), some (.int p3), some (.int x5)] [] m6 0 0 (f_X12_isBestOf_j39 p1 p2 p3 x5 m6) Φ := by
  unfold f_X12_isBestOf_j39
  refine ev_iinc (ls' := [some (.ref 272), some (.int p1), some (.int p2), some (.int p3), some (.int (x5 + 1))]) (ea_at dt_X12_isBestOf 21 rfl) rfl (congrArg (fun z => _ + z) ic_1) (ea_lt rfl) rfl ?_
  refine ev_goto (tgt := 3) (ea_at dt_X12_isBestOf 22 rfl) rfl ?_
  exact ev_leaf (fun h => ea_drop (l' := [some (.ref 272), some (.int p1), some (.int p2), some (.int p3), some (.int (x5 + 1))]) ⟨Or.inr rfl, Or.inr rfl, Or.inr rfl, Or.inr rfl, Or.inr rfl, trivial⟩ (hC (x5 + 1, m6) h))
set_option maxHeartbeats 300000 in
theorem lp_X12_isBestOf_3 (G : ea_G) {res : ea_O}  (p1 : Int32) (p2 : Int32) (p3 : Int32)  {Ψ : ((Int32 × ea_M) ⊕ (ea_M)) → Prop} (hR : ∀ t : Int32 × ea_M, Ψ (.inl t) → res = (0, t)) (hX : ∀ x3s : ea_M, Ψ (.inr x3s) → ea_Ev G F_X12_isBestOf res 45 [none, none, none, none, none] [] x3s 0 0) : ∀ (f : Nat) (s3 : Int32 × ea_M), ea_E G F_X12_isBestOf res 3 [some (.ref 272), some (.int p1), some (.int p2), some (.int p3), some (.int s3.1)] [] s3.2 0 0 (ea_loop (f_X12_isBestOf_s3 p1 p2 p3) f s3) Ψ := by
  refine ev_loop (G := G) (F := F_X12_isBestOf) (res := res) (pc := 3) (st := []) (k := 0) (n := 0) (step := (f_X12_isBestOf_s3 p1 p2 p3)) (Ψ := Ψ) (fun (s3 : Int32 × ea_M) => [some (.ref 272), some (.int p1), some (.int p2), some (.int p3), some (.int s3.1)]) (fun (s3 : Int32 × ea_M) => s3.2) (fun s3 => ?_)
  have hC : ∀ s3 : Int32 × ea_M, (Sum.elim (fun s3 : Int32 × ea_M => ea_Ev G F_X12_isBestOf res 3 [some (.ref 272), some (.int p1), some (.int p2), some (.int p3), some (.int s3.1)] [] s3.2 0 0) Ψ) (.inl s3) → ea_Ev G F_X12_isBestOf res 3 [some (.ref 272), some (.int p1), some (.int p2), some (.int p3), some (.int s3.1)] [] s3.2 0 0 := fun _ h => h
  have hR : ∀ t : Int32 × ea_M, (Sum.elim (fun s3 : Int32 × ea_M => ea_Ev G F_X12_isBestOf res 3 [some (.ref 272), some (.int p1), some (.int p2), some (.int p3), some (.int s3.1)] [] s3.2 0 0) Ψ) (.inr (.inl t)) → res = (0, t) := hR
  have hX : ∀ x3s : ea_M, (Sum.elim (fun s3 : Int32 × ea_M => ea_Ev G F_X12_isBestOf res 3 [some (.ref 272), some (.int p1), some (.int p2), some (.int p3), some (.int s3.1)] [] s3.2 0 0) Ψ) (.inr (.inr x3s)) → ea_Ev G F_X12_isBestOf res 45 [none, none, none, none, none] [] x3s 0 0 := hX
  unfold f_X12_isBestOf_s3
  refine ev_iload (ea_at dt_X12_isBestOf 2 rfl) rfl ?_
  refine ev_aload_n (ea_at dt_X12_isBestOf 3 rfl) rfl ?_
  refine ev_clI (F1 := F_X12_birds) (fun rY mY hY => ea_runV (As := []) (ea_at dt_X12_isBestOf 4 rfl) ml_X12_74 mv_X12_birds (ok_X12_birds G s3.2  rY mY hY) sh_272 rfl rfl rfl (Nat.le_of_ble_eq_true rfl) rfl) rfl (fun r2 m1 => ?_)
  refine ev_icmp_ge (tgt := 45) (ea_at dt_X12_isBestOf 5 rfl) rfl (fun _ => ?_) (fun _ => ?_)
  · exact ev_leaf (fun h => ea_drop (l' := [none, none, none, none, none]) ⟨Or.inl rfl, Or.inl rfl, Or.inl rfl, Or.inl rfl, Or.inl rfl, trivial⟩ (hX m1 h))
  · refine ev_iload_n (ea_at dt_X12_isBestOf 6 rfl) rfl ?_
    refine ev_iload (ea_at dt_X12_isBestOf 7 rfl) rfl ?_
    refine ev_clI (F1 := F_X12_has) (fun rY mY hY => ea_runS (As := [.int p3, .int s3.1]) (ea_at dt_X12_isBestOf 8 rfl) ml_X12_127 mv_X12_has (ok_X12_has G p3 s3.1 m1  rY mY hY) rfl rfl (Nat.le_of_ble_eq_true rfl) rfl) rfl (fun r4 m3 => ?_)
    refine ev_if_eq (tgt := 39) (ea_at dt_X12_isBestOf 9 rfl) rfl (fun _ => ?_) (fun _ => ?_)
    · exact ev_drop (l' := [some (.ref 272), some (.int p1), some (.int p2), some (.int p3), some (.int s3.1)]) ⟨Or.inr rfl, Or.inr rfl, Or.inr rfl, Or.inr rfl, Or.inr rfl, trivial⟩ (jn_X12_isBestOf_39 G p1 p2 p3 s3.1 m3  hC hR hX)
    · refine ev_aload_n (ea_at dt_X12_isBestOf 10 rfl) rfl ?_
      refine ev_iload (ea_at dt_X12_isBestOf 11 rfl) rfl ?_
      refine ev_iload_n (ea_at dt_X12_isBestOf 12 rfl) rfl ?_
      refine ev_clI (F1 := F_X12_firstHas) (fun rY mY hY => ea_runV (As := [.int s3.1, .int p2]) (ea_at dt_X12_isBestOf 13 rfl) ml_X12_381 mv_X12_firstHas (ok_X12_firstHas G s3.1 p2 m3  rY mY hY) sh_272 rfl rfl rfl (Nat.le_of_ble_eq_true rfl) rfl) rfl (fun r8 m7 => ?_)
      refine ev_aload_n (ea_at dt_X12_isBestOf 14 rfl) rfl ?_
      refine ev_iload_n (ea_at dt_X12_isBestOf 15 rfl) rfl ?_
      refine ev_iload_n (ea_at dt_X12_isBestOf 16 rfl) rfl ?_
      refine ev_clI (F1 := F_X12_firstHas) (fun rY mY hY => ea_runV (As := [.int p1, .int p2]) (ea_at dt_X12_isBestOf 17 rfl) ml_X12_381 mv_X12_firstHas (ok_X12_firstHas G p1 p2 m7  rY mY hY) sh_272 rfl rfl rfl (Nat.le_of_ble_eq_true rfl) rfl) rfl (fun r10 m9 => ?_)
      refine ev_icmp_le (tgt := 39) (ea_at dt_X12_isBestOf 18 rfl) rfl (fun _ => ?_) (fun _ => ?_)
      · exact ev_drop (l' := [some (.ref 272), some (.int p1), some (.int p2), some (.int p3), some (.int s3.1)]) ⟨Or.inr rfl, Or.inr rfl, Or.inr rfl, Or.inr rfl, Or.inr rfl, trivial⟩ (jn_X12_isBestOf_39 G p1 p2 p3 s3.1 m9  hC hR hX)
      · refine ev_iconst (ea_at dt_X12_isBestOf 19 rfl) ic_0 ?_
        exact ev_zret (by decide) (ea_at dt_X12_isBestOf 20 rfl) rfl ⟨by decide, by decide⟩ (fun h => hR _ h)
set_option maxHeartbeats 300000 in
theorem ok_X12_isBestOf (G : ea_G) (p1 : Int32) (p2 : Int32) (p3 : Int32) (m : ea_M)  (rZ : Int32) (mZ : ea_M) (hZ : f_X12_isBestOf p1 p2 p3 m = some (rZ, mZ)) : ea_Met G yX12_isBestOf F_X12_isBestOf [.ref 272, .int p1, .int p2, .int p3] m (0, rZ, mZ) := by
  refine ea_met (F := F_X12_isBestOf) (by decide +kernel) rfl rfl (Nat.le_of_ble_eq_true rfl) (by simp only [List.mem_cons, List.not_mem_nil, or_false]; intro v hv; rcases hv with rfl | rfl | rfl | rfl <;> rfl) ((?_ : ea_E G F_X12_isBestOf (0, rZ, mZ) 0 [some (.ref 272), some (.int p1), some (.int p2), some (.int p3), none] [] m 0 0 (f_X12_isBestOf p1 p2 p3 m) (fun t => t = (rZ, mZ))) (rZ, mZ) hZ rfl)
  have hR : ∀ t : Int32 × ea_M, t = (rZ, mZ) → ((0, rZ, mZ) : ea_O) = (0, t) := fun t h => by rw [h]
  unfold f_X12_isBestOf
  refine ev_iconst (ea_at dt_X12_isBestOf 0 rfl) ic_0 ?_
  refine ev_istore (ls' := [some (.ref 272), some (.int p1), some (.int p2), some (.int p3), some (.int 0)]) (ea_at dt_X12_isBestOf 1 rfl) (ea_lt rfl) rfl ?_
  refine ev_drop (l' := [some (.ref 272), some (.int p1), some (.int p2), some (.int p3), some (.int 0)]) ⟨Or.inr rfl, Or.inr rfl, Or.inr rfl, Or.inr rfl, Or.inr rfl, trivial⟩ ?_
  refine ev_sl (lp_X12_isBestOf_3 G p1 p2 p3  (fun t h => by obtain ⟨t1, e1, q1⟩ := h; cases e1; exact hR t q1) (fun x3s h => ?_) ea_fuel (0, m))
  obtain ⟨t1, e1, q1⟩ := h
  refine (?_ : ea_E G F_X12_isBestOf (0, rZ, mZ) 45 [none, none, none, none, none] [] x3s 0 0 _ (fun t => t = (rZ, mZ))) t1 e1 q1
  refine ev_iconst (ea_at dt_X12_isBestOf 23 rfl) ic_1 ?_
  exact ev_zret (by decide) (ea_at dt_X12_isBestOf 24 rfl) rfl ⟨by decide, by decide⟩ (fun h => hR _ h)
def F_X12_rests : ea_F := (ea_rm 18 0 0, cX12_rests, RX12, some .int, 10, [], 0, 0)
def D_X12_rests : List (Nat × Instr × Nat) := [(0, .aload_n 0, 1), (1, .iconst 0, 1), (2, .putfield 3, 3), (5, .aload_n 0, 1), (6, .aload_n 0, 1), (7, .iload_n 1, 1), (8, .invokevirtual 396, 3), (11, .iconst 1, 1), (12, .invokevirtual 265, 3), (15, .ifCond .ne 24, 3), (18, .aload_n 0, 1), (19, .aload_n 0, 1), (20, .iload_n 1, 1), (21, .invokevirtual 407, 3), (24, .ifCond .ne 7, 3), (27, .iconst 1, 1), (28, .goto 4, 3), (31, .iconst 0, 1), (32, .iconst 2, 1), (33, .invokevirtual 265, 3), (36, .ifCond .eq 5, 3), (39, .iconst 0, 1), (40, .ireturn, 1), (41, .aload_n 0, 1), (42, .invokevirtual 378, 3), (45, .aload_n 0, 1), (46, .iload_n 1, 1), (47, .iconst 0, 1), (48, .invokevirtual 399, 3), (51, .istore_n 3, 1), (52, .aload_n 0, 1), (53, .iload_n 1, 1), (54, .iconst 1, 1), (55, .invokevirtual 399, 3), (58, .istore 4, 2), (60, .iconst 0, 1), (61, .istore 5, 2), (63, .iconst (-1), 1), (64, .istore 6, 2), (66, .bipush 35, 2), (68, .istore 7, 2), (70, .iload 7, 2), (72, .ifCond .lt 83, 3), (75, .iload 7, 2), (77, .bipush 6, 2), (79, .idiv, 1), (80, .istore 8, 2), (82, .iload 7, 2), (84, .bipush 6, 2), (86, .irem, 1), (87, .istore 9, 2), (89, .iload_n 3, 1), (90, .iload 8, 2), (92, .invokestatic 127, 3), (95, .ifCond .eq 54, 3), (98, .iload 4, 2), (100, .iload 9, 2), (102, .invokestatic 127, 3), (105, .ifCond .eq 44, 3), (108, .aload_n 0, 1), (109, .iload 8, 2), (111, .iload 9, 2), (113, .iload_n 3, 1), (114, .invokevirtual 413, 3), (117, .ifCond .eq 32, 3), (120, .aload_n 0, 1), (121, .iload 9, 2), (123, .iload 8, 2), (125, .iload 4, 2), (127, .invokevirtual 413, 3), (130, .ifCond .ne 6, 3), (133, .goto 16, 3), (136, .iinc 5 1, 3), (139, .bipush 10, 2), (141, .iload 8, 2), (143, .imul, 1), (144, .iload 9, 2), (146, .iadd, 1), (147, .istore 6, 2), (149, .iinc 7 (-1), 3), (152, .goto (-82), 3), (155, .iload_n 2, 1), (156, .ifCond .eq 8, 3), (159, .iload 6, 2), (161, .goto 5, 3), (164, .iload 5, 2), (166, .ireturn, 1)]
theorem dt_X12_rests : ∀ q ∈ D_X12_rests, decode cX12_rests q.1 = .ok q.2 := by decide +kernel
theorem mv_X12_rests : ea_MV yX12_rests (F_X12_rests) 2 := ⟨⟨List.mem_append_right _ (List.mem_of_getElem? (i := 13) (by decide +kernel)), List.mem_append_right _ (List.mem_of_getElem? (i := 1906) (by decide +kernel)), ⟨by decide, by decide⟩, by decide +kernel⟩, List.mem_append_right _ (List.mem_of_getElem? (i := 1904) (by decide +kernel)), List.mem_append_right _ (List.mem_of_getElem? (i := 1905) (by decide +kernel))⟩
def f_X12_rests_j149 (p2 : Int32) (r15 : Int32) (r17 : Int32) (x22 : Int32) (x23 : Int32) (x24 : Int32) (m25 : ea_M) : Option ((Int32 × Int32 × Int32 × ea_M) ⊕ (Int32 × Int32 × ea_M)) :=
  some (.inl (x22, x23, x24 + (-1), m25))
def f_X12_rests_s70 (p2 : Int32) (r15 : Int32) (r17 : Int32)  (s70 : Int32 × Int32 × Int32 × ea_M) : Option ((Int32 × Int32 × Int32 × ea_M) ⊕ (Int32 × Int32 × ea_M)) :=
  if s70.2.2.1 < 0 then
  some (.inr (s70.1, s70.2.1, s70.2.2.2))
  else
  ea_bd (s70.2.2.1 / 6) fun x18 =>
  ea_bd (s70.2.2.1 - s70.2.2.1 / 6 * 6) fun x19 =>
  ea_cl (f_X12_has r15 x18 s70.2.2.2) fun r21 m20 =>
  if r21 = 0 then
  f_X12_rests_j149 p2 r15 r17 s70.1 s70.2.1 s70.2.2.1 m20
  else
  ea_cl (f_X12_has r17 x19 m20) fun r27 m26 =>
  if r27 = 0 then
  f_X12_rests_j149 p2 r15 r17 s70.1 s70.2.1 s70.2.2.1 m26
  else
  ea_cl (f_X12_isBestOf x18 x19 r15 m26) fun r29 m28 =>
  if r29 = 0 then
  f_X12_rests_j149 p2 r15 r17 s70.1 s70.2.1 s70.2.2.1 m28
  else
  ea_cl (f_X12_isBestOf x19 x18 r17 m28) fun r31 m30 =>
  if r31 = 0 then
  f_X12_rests_j149 p2 r15 r17 s70.1 s70.2.1 s70.2.2.1 m30
  else
  ea_bd ((10 * x18) + x19) fun x32 =>
  f_X12_rests_j149 p2 r15 r17 (s70.1 + 1) x32 s70.2.2.1 m30
def f_X12_rests_j32 (p1 : Int32) (p2 : Int32) (x8 : Int32) (m9 : ea_M) : Option (Int32 × ea_M) :=
  ea_cl (f_X12_throwsIf x8 2 m9) fun r11 m10 =>
  if r11 = 0 then
  ea_cl (f_X12_laysAllGoods m10) fun r13 m12 =>
  ea_cl (f_X12_choices p1 0 m12) fun r15 m14 =>
  ea_cl (f_X12_choices p1 1 m14) fun r17 m16 =>
  (ea_loop (f_X12_rests_s70 p2 r15 r17) ea_fuel (0, (-1), 35, m16)).bind (fun x70s =>
  if p2 = 0 then
  some (x70s.1, x70s.2.2)
  else
  some (x70s.2.1, x70s.2.2))
  else
  some (0, m10)
def f_X12_rests (p1 : Int32) (p2 : Int32) (m : ea_M) : Option (Int32 × ea_M) :=
  ea_bd (ea_st m 272 0 0) fun m1 =>
  ea_cl (f_X12_noCase p1 m1) fun r3 m2 =>
  ea_cl (f_X12_throwsIf r3 1 m2) fun r5 m4 =>
  if r5 = 0 then
  ea_cl (f_X12_isOpen p1 m4) fun r7 m6 =>
  if r7 = 0 then
  f_X12_rests_j32 p1 p2 1 m6
  else
  f_X12_rests_j32 p1 p2 0 m6
  else
  some (0, m4)
set_option maxHeartbeats 300000 in
theorem jn_X12_rests_149 (G : ea_G) {res : ea_O}  (p2 : Int32) (r15 : Int32) (r17 : Int32) (x22 : Int32) (x23 : Int32) (x24 : Int32) (m25 : ea_M)  {Φ : ((Int32 × Int32 × Int32 × ea_M) ⊕ (Int32 × Int32 × ea_M)) → Prop} (hC : ∀ s70 : Int32 × Int32 × Int32 × ea_M, Φ (.inl s70) → ea_Ev G F_X12_rests res 70 [some (.ref 272), none, some (.int p2), some (.int r15), some (.int r17), some (.int s70.1), some (.int s70.2.1), some (.int s70.2.2.1), none, none] [] s70.2.2.2 0 0) (hX : ∀ x70s : Int32 × Int32 × ea_M, Φ (.inr x70s) → ea_Ev G F_X12_rests res 155 [none, none, some (.int p2), none, none, some (.int x70s.1), some (.int x70s.2.1), none, none, none] [] x70s.2.2 0 0) : ea_E G F_X12_rests res 149 [some (.ref 272), none, some (.int p2), some (.int r15), some (.int r17), some (.int x22), some (.int x23), some (.int x24), none, none] [] m25 0 0 (f_X12_rests_j149 p2 r15 r17 x22 x23 x24 m25) Φ := by
  unfold f_X12_rests_j149
  refine ev_iinc (ls' := [some (.ref 272), none, some (.int p2), some (.int r15), some (.int r17), some (.int x22), some (.int x23), some (.int (x24 + (-1))), none, none]) (ea_at dt_X12_rests 79 rfl) rfl (congrArg (fun z => _ + z) ic_m1) (ea_lt rfl) rfl ?_
  refine ev_goto (tgt := 70) (ea_at dt_X12_rests 80 rfl) rfl ?_
  exact ev_leaf (fun h => ea_drop (l' := [some (.ref 272), none, some (.int p2), some (.int r15), some (.int r17), some (.int x22), some (.int x23), some (.int (x24 + (-1))), none, none]) ⟨Or.inr rfl, Or.inl rfl, Or.inr rfl, Or.inr rfl, Or.inr rfl, Or.inr rfl, Or.inr rfl, Or.inr rfl, Or.inl rfl, Or.inl rfl, trivial⟩ (hC (x22, x23, x24 + (-1), m25) h))
set_option maxHeartbeats 300000 in
theorem lp_X12_rests_70 (G : ea_G) {res : ea_O}  (p2 : Int32) (r15 : Int32) (r17 : Int32)  {Ψ : (Int32 × Int32 × ea_M) → Prop} (hX : ∀ x70s : Int32 × Int32 × ea_M, Ψ x70s → ea_Ev G F_X12_rests res 155 [none, none, some (.int p2), none, none, some (.int x70s.1), some (.int x70s.2.1), none, none, none] [] x70s.2.2 0 0) : ∀ (f : Nat) (s70 : Int32 × Int32 × Int32 × ea_M), ea_E G F_X12_rests res 70 [some (.ref 272), none, some (.int p2), some (.int r15), some (.int r17), some (.int s70.1), some (.int s70.2.1), some (.int s70.2.2.1), none, none] [] s70.2.2.2 0 0 (ea_loop (f_X12_rests_s70 p2 r15 r17) f s70) Ψ := by
  refine ev_loop (G := G) (F := F_X12_rests) (res := res) (pc := 70) (st := []) (k := 0) (n := 0) (step := (f_X12_rests_s70 p2 r15 r17)) (Ψ := Ψ) (fun (s70 : Int32 × Int32 × Int32 × ea_M) => [some (.ref 272), none, some (.int p2), some (.int r15), some (.int r17), some (.int s70.1), some (.int s70.2.1), some (.int s70.2.2.1), none, none]) (fun (s70 : Int32 × Int32 × Int32 × ea_M) => s70.2.2.2) (fun s70 => ?_)
  have hC : ∀ s70 : Int32 × Int32 × Int32 × ea_M, (Sum.elim (fun s70 : Int32 × Int32 × Int32 × ea_M => ea_Ev G F_X12_rests res 70 [some (.ref 272), none, some (.int p2), some (.int r15), some (.int r17), some (.int s70.1), some (.int s70.2.1), some (.int s70.2.2.1), none, none] [] s70.2.2.2 0 0) Ψ) (.inl s70) → ea_Ev G F_X12_rests res 70 [some (.ref 272), none, some (.int p2), some (.int r15), some (.int r17), some (.int s70.1), some (.int s70.2.1), some (.int s70.2.2.1), none, none] [] s70.2.2.2 0 0 := fun _ h => h
  have hX : ∀ x70s : Int32 × Int32 × ea_M, (Sum.elim (fun s70 : Int32 × Int32 × Int32 × ea_M => ea_Ev G F_X12_rests res 70 [some (.ref 272), none, some (.int p2), some (.int r15), some (.int r17), some (.int s70.1), some (.int s70.2.1), some (.int s70.2.2.1), none, none] [] s70.2.2.2 0 0) Ψ) (.inr x70s) → ea_Ev G F_X12_rests res 155 [none, none, some (.int p2), none, none, some (.int x70s.1), some (.int x70s.2.1), none, none, none] [] x70s.2.2 0 0 := hX
  unfold f_X12_rests_s70
  refine ev_iload (ea_at dt_X12_rests 41 rfl) rfl ?_
  refine ev_if_lt (tgt := 155) (ea_at dt_X12_rests 42 rfl) rfl (fun _ => ?_) (fun _ => ?_)
  · exact ev_leaf (fun h => ea_drop (l' := [none, none, some (.int p2), none, none, some (.int s70.1), some (.int s70.2.1), none, none, none]) ⟨Or.inl rfl, Or.inl rfl, Or.inr rfl, Or.inl rfl, Or.inl rfl, Or.inr rfl, Or.inr rfl, Or.inl rfl, Or.inl rfl, Or.inl rfl, trivial⟩ (hX (s70.1, s70.2.1, s70.2.2.2) h))
  · refine ev_iload (ea_at dt_X12_rests 43 rfl) rfl ?_
    refine ev_bipush (ea_at dt_X12_rests 44 rfl) bp_6 ?_
    refine ev_idiv (ea_at dt_X12_rests 45 rfl) (by decide) ?_
    refine ev_i (fun x18 => ?_)
    refine ev_istore (ls' := [some (.ref 272), none, some (.int p2), some (.int r15), some (.int r17), some (.int s70.1), some (.int s70.2.1), some (.int s70.2.2.1), some (.int x18), none]) (ea_at dt_X12_rests 46 rfl) (ea_lt rfl) rfl ?_
    refine ev_iload (ea_at dt_X12_rests 47 rfl) rfl ?_
    refine ev_bipush (ea_at dt_X12_rests 48 rfl) bp_6 ?_
    refine ev_irem (ea_at dt_X12_rests 49 rfl) (by decide) ?_
    refine ev_i (fun x19 => ?_)
    refine ev_istore (ls' := [some (.ref 272), none, some (.int p2), some (.int r15), some (.int r17), some (.int s70.1), some (.int s70.2.1), some (.int s70.2.2.1), some (.int x18), some (.int x19)]) (ea_at dt_X12_rests 50 rfl) (ea_lt rfl) rfl ?_
    refine ev_iload_n (ea_at dt_X12_rests 51 rfl) rfl ?_
    refine ev_iload (ea_at dt_X12_rests 52 rfl) rfl ?_
    refine ev_clI (F1 := F_X12_has) (fun rY mY hY => ea_runS (As := [.int r15, .int x18]) (ea_at dt_X12_rests 53 rfl) ml_X12_127 mv_X12_has (ok_X12_has G r15 x18 s70.2.2.2  rY mY hY) rfl rfl (Nat.le_of_ble_eq_true rfl) rfl) rfl (fun r21 m20 => ?_)
    refine ev_if_eq (tgt := 149) (ea_at dt_X12_rests 54 rfl) rfl (fun _ => ?_) (fun _ => ?_)
    · exact ev_drop (l' := [some (.ref 272), none, some (.int p2), some (.int r15), some (.int r17), some (.int s70.1), some (.int s70.2.1), some (.int s70.2.2.1), none, none]) ⟨Or.inr rfl, Or.inl rfl, Or.inr rfl, Or.inr rfl, Or.inr rfl, Or.inr rfl, Or.inr rfl, Or.inr rfl, Or.inl rfl, Or.inl rfl, trivial⟩ (jn_X12_rests_149 G p2 r15 r17 s70.1 s70.2.1 s70.2.2.1 m20  hC hX)
    · refine ev_iload (ea_at dt_X12_rests 55 rfl) rfl ?_
      refine ev_iload (ea_at dt_X12_rests 56 rfl) rfl ?_
      refine ev_clI (F1 := F_X12_has) (fun rY mY hY => ea_runS (As := [.int r17, .int x19]) (ea_at dt_X12_rests 57 rfl) ml_X12_127 mv_X12_has (ok_X12_has G r17 x19 m20  rY mY hY) rfl rfl (Nat.le_of_ble_eq_true rfl) rfl) rfl (fun r27 m26 => ?_)
      refine ev_if_eq (tgt := 149) (ea_at dt_X12_rests 58 rfl) rfl (fun _ => ?_) (fun _ => ?_)
      · exact ev_drop (l' := [some (.ref 272), none, some (.int p2), some (.int r15), some (.int r17), some (.int s70.1), some (.int s70.2.1), some (.int s70.2.2.1), none, none]) ⟨Or.inr rfl, Or.inl rfl, Or.inr rfl, Or.inr rfl, Or.inr rfl, Or.inr rfl, Or.inr rfl, Or.inr rfl, Or.inl rfl, Or.inl rfl, trivial⟩ (jn_X12_rests_149 G p2 r15 r17 s70.1 s70.2.1 s70.2.2.1 m26  hC hX)
      · refine ev_aload_n (ea_at dt_X12_rests 59 rfl) rfl ?_
        refine ev_iload (ea_at dt_X12_rests 60 rfl) rfl ?_
        refine ev_iload (ea_at dt_X12_rests 61 rfl) rfl ?_
        refine ev_iload_n (ea_at dt_X12_rests 62 rfl) rfl ?_
        refine ev_clI (F1 := F_X12_isBestOf) (fun rY mY hY => ea_runV (As := [.int x18, .int x19, .int r15]) (ea_at dt_X12_rests 63 rfl) ml_X12_413 mv_X12_isBestOf (ok_X12_isBestOf G x18 x19 r15 m26  rY mY hY) sh_272 rfl rfl rfl (Nat.le_of_ble_eq_true rfl) rfl) rfl (fun r29 m28 => ?_)
        refine ev_if_eq (tgt := 149) (ea_at dt_X12_rests 64 rfl) rfl (fun _ => ?_) (fun _ => ?_)
        · exact ev_drop (l' := [some (.ref 272), none, some (.int p2), some (.int r15), some (.int r17), some (.int s70.1), some (.int s70.2.1), some (.int s70.2.2.1), none, none]) ⟨Or.inr rfl, Or.inl rfl, Or.inr rfl, Or.inr rfl, Or.inr rfl, Or.inr rfl, Or.inr rfl, Or.inr rfl, Or.inl rfl, Or.inl rfl, trivial⟩ (jn_X12_rests_149 G p2 r15 r17 s70.1 s70.2.1 s70.2.2.1 m28  hC hX)
        · refine ev_aload_n (ea_at dt_X12_rests 65 rfl) rfl ?_
          refine ev_iload (ea_at dt_X12_rests 66 rfl) rfl ?_
          refine ev_iload (ea_at dt_X12_rests 67 rfl) rfl ?_
          refine ev_iload (ea_at dt_X12_rests 68 rfl) rfl ?_
          refine ev_clI (F1 := F_X12_isBestOf) (fun rY mY hY => ea_runV (As := [.int x19, .int x18, .int r17]) (ea_at dt_X12_rests 69 rfl) ml_X12_413 mv_X12_isBestOf (ok_X12_isBestOf G x19 x18 r17 m28  rY mY hY) sh_272 rfl rfl rfl (Nat.le_of_ble_eq_true rfl) rfl) rfl (fun r31 m30 => ?_)
          refine ev_if_ne (tgt := 136) (ea_at dt_X12_rests 70 rfl) rfl (fun _ => ?_) (fun _ => ?_)
          · refine ev_goto (tgt := 149) (ea_at dt_X12_rests 71 rfl) rfl ?_
            exact ev_drop (l' := [some (.ref 272), none, some (.int p2), some (.int r15), some (.int r17), some (.int s70.1), some (.int s70.2.1), some (.int s70.2.2.1), none, none]) ⟨Or.inr rfl, Or.inl rfl, Or.inr rfl, Or.inr rfl, Or.inr rfl, Or.inr rfl, Or.inr rfl, Or.inr rfl, Or.inl rfl, Or.inl rfl, trivial⟩ (jn_X12_rests_149 G p2 r15 r17 s70.1 s70.2.1 s70.2.2.1 m30  hC hX)
          · refine ev_iinc (ls' := [some (.ref 272), none, some (.int p2), some (.int r15), some (.int r17), some (.int (s70.1 + 1)), some (.int s70.2.1), some (.int s70.2.2.1), some (.int x18), some (.int x19)]) (ea_at dt_X12_rests 72 rfl) rfl (congrArg (fun z => _ + z) ic_1) (ea_lt rfl) rfl ?_
            refine ev_bipush (ea_at dt_X12_rests 73 rfl) bp_10 ?_
            refine ev_iload (ea_at dt_X12_rests 74 rfl) rfl ?_
            refine ev_imul (ea_at dt_X12_rests 75 rfl) ?_
            refine ev_iload (ea_at dt_X12_rests 76 rfl) rfl ?_
            refine ev_iadd (ea_at dt_X12_rests 77 rfl) ?_
            refine ev_i (fun x32 => ?_)
            refine ev_istore (ls' := [some (.ref 272), none, some (.int p2), some (.int r15), some (.int r17), some (.int (s70.1 + 1)), some (.int x32), some (.int s70.2.2.1), some (.int x18), some (.int x19)]) (ea_at dt_X12_rests 78 rfl) (ea_lt rfl) rfl ?_
            exact ev_drop (l' := [some (.ref 272), none, some (.int p2), some (.int r15), some (.int r17), some (.int (s70.1 + 1)), some (.int x32), some (.int s70.2.2.1), none, none]) ⟨Or.inr rfl, Or.inl rfl, Or.inr rfl, Or.inr rfl, Or.inr rfl, Or.inr rfl, Or.inr rfl, Or.inr rfl, Or.inl rfl, Or.inl rfl, trivial⟩ (jn_X12_rests_149 G p2 r15 r17 (s70.1 + 1) x32 s70.2.2.1 m30  hC hX)
set_option maxHeartbeats 300000 in
theorem jn_X12_rests_32 (G : ea_G) {res : ea_O}  (p1 : Int32) (p2 : Int32) (x8 : Int32) (m9 : ea_M)  {Φ : (Int32 × ea_M) → Prop} (hR : ∀ t : Int32 × ea_M, Φ t → res = (0, t)) : ea_E G F_X12_rests res 32 [some (.ref 272), some (.int p1), some (.int p2), none, none, none, none, none, none, none] [.int x8, .ref 272] m9 0 0 (f_X12_rests_j32 p1 p2 x8 m9) Φ := by
  unfold f_X12_rests_j32
  refine ev_iconst (ea_at dt_X12_rests 18 rfl) ic_2 ?_
  refine ev_clI (F1 := F_X12_throwsIf) (fun rY mY hY => ea_runV (As := [.int x8, .int 2]) (ea_at dt_X12_rests 19 rfl) ml_X12_265 mv_X12_throwsIf (ok_X12_throwsIf G x8 2 m9  rY mY hY) sh_272 rfl rfl rfl (Nat.le_of_ble_eq_true rfl) rfl) rfl (fun r11 m10 => ?_)
  refine ev_if_eq (tgt := 41) (ea_at dt_X12_rests 20 rfl) rfl (fun _ => ?_) (fun _ => ?_)
  · refine ev_aload_n (ea_at dt_X12_rests 23 rfl) rfl ?_
    refine ev_clU (F1 := F_X12_laysAllGoods) (fun rY mY hY => ea_runV (As := []) (ea_at dt_X12_rests 24 rfl) ml_X12_378 mv_X12_laysAllGoods (ok_X12_laysAllGoods G m10  rY mY hY) sh_272 rfl rfl rfl (Nat.le_of_ble_eq_true rfl) rfl) rfl (fun r13 m12 => ?_)
    refine ev_aload_n (ea_at dt_X12_rests 25 rfl) rfl ?_
    refine ev_iload_n (ea_at dt_X12_rests 26 rfl) rfl ?_
    refine ev_iconst (ea_at dt_X12_rests 27 rfl) ic_0 ?_
    refine ev_clI (F1 := F_X12_choices) (fun rY mY hY => ea_runV (As := [.int p1, .int 0]) (ea_at dt_X12_rests 28 rfl) ml_X12_399 mv_X12_choices (ok_X12_choices G p1 0 m12  rY mY hY) sh_272 rfl rfl rfl (Nat.le_of_ble_eq_true rfl) rfl) rfl (fun r15 m14 => ?_)
    refine ev_istore_n (ls' := [some (.ref 272), some (.int p1), some (.int p2), some (.int r15), none, none, none, none, none, none]) (ea_at dt_X12_rests 29 rfl) (ea_lt rfl) rfl ?_
    refine ev_aload_n (ea_at dt_X12_rests 30 rfl) rfl ?_
    refine ev_iload_n (ea_at dt_X12_rests 31 rfl) rfl ?_
    refine ev_iconst (ea_at dt_X12_rests 32 rfl) ic_1 ?_
    refine ev_clI (F1 := F_X12_choices) (fun rY mY hY => ea_runV (As := [.int p1, .int 1]) (ea_at dt_X12_rests 33 rfl) ml_X12_399 mv_X12_choices (ok_X12_choices G p1 1 m14  rY mY hY) sh_272 rfl rfl rfl (Nat.le_of_ble_eq_true rfl) rfl) rfl (fun r17 m16 => ?_)
    refine ev_istore (ls' := [some (.ref 272), some (.int p1), some (.int p2), some (.int r15), some (.int r17), none, none, none, none, none]) (ea_at dt_X12_rests 34 rfl) (ea_lt rfl) rfl ?_
    refine ev_iconst (ea_at dt_X12_rests 35 rfl) ic_0 ?_
    refine ev_istore (ls' := [some (.ref 272), some (.int p1), some (.int p2), some (.int r15), some (.int r17), some (.int 0), none, none, none, none]) (ea_at dt_X12_rests 36 rfl) (ea_lt rfl) rfl ?_
    refine ev_iconst (ea_at dt_X12_rests 37 rfl) ic_m1 ?_
    refine ev_istore (ls' := [some (.ref 272), some (.int p1), some (.int p2), some (.int r15), some (.int r17), some (.int 0), some (.int (-1)), none, none, none]) (ea_at dt_X12_rests 38 rfl) (ea_lt rfl) rfl ?_
    refine ev_bipush (ea_at dt_X12_rests 39 rfl) bp_35 ?_
    refine ev_istore (ls' := [some (.ref 272), some (.int p1), some (.int p2), some (.int r15), some (.int r17), some (.int 0), some (.int (-1)), some (.int 35), none, none]) (ea_at dt_X12_rests 40 rfl) (ea_lt rfl) rfl ?_
    refine ev_drop (l' := [some (.ref 272), none, some (.int p2), some (.int r15), some (.int r17), some (.int 0), some (.int (-1)), some (.int 35), none, none]) ⟨Or.inr rfl, Or.inl rfl, Or.inr rfl, Or.inr rfl, Or.inr rfl, Or.inr rfl, Or.inr rfl, Or.inr rfl, Or.inl rfl, Or.inl rfl, trivial⟩ ?_
    refine ev_bind (lp_X12_rests_70 G p2 r15 r17   (fun x70s h => ?_) ea_fuel (0, (-1), 35, m16))
    obtain ⟨t1, e1, q1⟩ := h
    refine (?_ : ea_E G F_X12_rests res 155 [none, none, some (.int p2), none, none, some (.int x70s.1), some (.int x70s.2.1), none, none, none] [] x70s.2.2 0 0 _ Φ) t1 e1 q1
    refine ev_iload_n (ea_at dt_X12_rests 81 rfl) rfl ?_
    refine ev_if_eq (tgt := 164) (ea_at dt_X12_rests 82 rfl) rfl (fun _ => ?_) (fun _ => ?_)
    · refine ev_iload (ea_at dt_X12_rests 85 rfl) rfl ?_
      exact ev_iret (ea_at dt_X12_rests 86 rfl) rfl ⟨by decide, by decide⟩ (fun h => hR _ h)
    · refine ev_iload (ea_at dt_X12_rests 83 rfl) rfl ?_
      refine ev_goto (tgt := 166) (ea_at dt_X12_rests 84 rfl) rfl ?_
      exact ev_iret (ea_at dt_X12_rests 86 rfl) rfl ⟨by decide, by decide⟩ (fun h => hR _ h)
  · refine ev_iconst (ea_at dt_X12_rests 21 rfl) ic_0 ?_
    exact ev_iret (ea_at dt_X12_rests 22 rfl) rfl ⟨by decide, by decide⟩ (fun h => hR _ h)
set_option maxHeartbeats 300000 in
theorem ok_X12_rests (G : ea_G) (p1 : Int32) (p2 : Int32) (m : ea_M)  (rZ : Int32) (mZ : ea_M) (hZ : f_X12_rests p1 p2 m = some (rZ, mZ)) : ea_Met G yX12_rests F_X12_rests [.ref 272, .int p1, .int p2] m (0, rZ, mZ) := by
  refine ea_met (F := F_X12_rests) (by decide +kernel) rfl rfl (Nat.le_of_ble_eq_true rfl) (by simp only [List.mem_cons, List.not_mem_nil, or_false]; intro v hv; rcases hv with rfl | rfl | rfl <;> rfl) ((?_ : ea_E G F_X12_rests (0, rZ, mZ) 0 [some (.ref 272), some (.int p1), some (.int p2), none, none, none, none, none, none, none] [] m 0 0 (f_X12_rests p1 p2 m) (fun t => t = (rZ, mZ))) (rZ, mZ) hZ rfl)
  have hR : ∀ t : Int32 × ea_M, t = (rZ, mZ) → ((0, rZ, mZ) : ea_O) = (0, t) := fun t h => by rw [h]
  unfold f_X12_rests
  refine ev_aload_n (ea_at dt_X12_rests 0 rfl) rfl ?_
  refine ev_iconst (ea_at dt_X12_rests 1 rfl) ic_0 ?_
  refine ev_putI (ea_at dt_X12_rests 2 rfl) fl_X12_3 fp_12_0 sh_272 rfl ?_
  refine ev_m (fun m1 => ?_)
  refine ev_aload_n (ea_at dt_X12_rests 3 rfl) rfl ?_
  refine ev_aload_n (ea_at dt_X12_rests 4 rfl) rfl ?_
  refine ev_iload_n (ea_at dt_X12_rests 5 rfl) rfl ?_
  refine ev_clI (F1 := F_X12_noCase) (fun rY mY hY => ea_runV (As := [.int p1]) (ea_at dt_X12_rests 6 rfl) ml_X12_396 mv_X12_noCase (ok_X12_noCase G p1 m1  rY mY hY) sh_272 rfl rfl rfl (Nat.le_of_ble_eq_true rfl) rfl) rfl (fun r3 m2 => ?_)
  refine ev_iconst (ea_at dt_X12_rests 7 rfl) ic_1 ?_
  refine ev_clI (F1 := F_X12_throwsIf) (fun rY mY hY => ea_runV (As := [.int r3, .int 1]) (ea_at dt_X12_rests 8 rfl) ml_X12_265 mv_X12_throwsIf (ok_X12_throwsIf G r3 1 m2  rY mY hY) sh_272 rfl rfl rfl (Nat.le_of_ble_eq_true rfl) rfl) rfl (fun r5 m4 => ?_)
  refine ev_if_ne (tgt := 39) (ea_at dt_X12_rests 9 rfl) rfl (fun _ => ?_) (fun _ => ?_)
  · refine ev_aload_n (ea_at dt_X12_rests 10 rfl) rfl ?_
    refine ev_aload_n (ea_at dt_X12_rests 11 rfl) rfl ?_
    refine ev_iload_n (ea_at dt_X12_rests 12 rfl) rfl ?_
    refine ev_clI (F1 := F_X12_isOpen) (fun rY mY hY => ea_runV (As := [.int p1]) (ea_at dt_X12_rests 13 rfl) ml_X12_407 mv_X12_isOpen (ok_X12_isOpen G p1 m4  rY mY hY) sh_272 rfl rfl rfl (Nat.le_of_ble_eq_true rfl) rfl) rfl (fun r7 m6 => ?_)
    refine ev_if_ne (tgt := 31) (ea_at dt_X12_rests 14 rfl) rfl (fun _ => ?_) (fun _ => ?_)
    · refine ev_iconst (ea_at dt_X12_rests 15 rfl) ic_1 ?_
      refine ev_goto (tgt := 32) (ea_at dt_X12_rests 16 rfl) rfl ?_
      exact ev_drop (l' := [some (.ref 272), some (.int p1), some (.int p2), none, none, none, none, none, none, none]) ⟨Or.inr rfl, Or.inr rfl, Or.inr rfl, Or.inl rfl, Or.inl rfl, Or.inl rfl, Or.inl rfl, Or.inl rfl, Or.inl rfl, Or.inl rfl, trivial⟩ (jn_X12_rests_32 G p1 p2 1 m6  hR)
    · refine ev_iconst (ea_at dt_X12_rests 17 rfl) ic_0 ?_
      exact ev_drop (l' := [some (.ref 272), some (.int p1), some (.int p2), none, none, none, none, none, none, none]) ⟨Or.inr rfl, Or.inr rfl, Or.inr rfl, Or.inl rfl, Or.inl rfl, Or.inl rfl, Or.inl rfl, Or.inl rfl, Or.inl rfl, Or.inl rfl, trivial⟩ (jn_X12_rests_32 G p1 p2 0 m6  hR)
  · refine ev_iconst (ea_at dt_X12_rests 21 rfl) ic_0 ?_
    exact ev_iret (ea_at dt_X12_rests 22 rfl) rfl ⟨by decide, by decide⟩ (fun h => hR _ h)
def F_X12_fair : ea_F := (ea_rm 18 0 0, cX12_fair, RX12, some .int, 7, [], 0, 0)
def D_X12_fair : List (Nat × Instr × Nat) := [(0, .aload_n 0, 1), (1, .iconst 0, 1), (2, .putfield 3, 3), (5, .aload_n 0, 1), (6, .aload_n 0, 1), (7, .iload_n 1, 1), (8, .invokevirtual 396, 3), (11, .iconst 1, 1), (12, .invokevirtual 265, 3), (15, .ifCond .ne 24, 3), (18, .aload_n 0, 1), (19, .aload_n 0, 1), (20, .iload_n 1, 1), (21, .invokevirtual 407, 3), (24, .ifCond .ne 7, 3), (27, .iconst 1, 1), (28, .goto 4, 3), (31, .iconst 0, 1), (32, .iconst 2, 1), (33, .invokevirtual 265, 3), (36, .ifCond .eq 5, 3), (39, .iconst 0, 1), (40, .ireturn, 1), (41, .aload_n 0, 1), (42, .invokevirtual 378, 3), (45, .iconst (-1), 1), (46, .istore_n 2, 1), (47, .ldc_w 416, 3), (50, .istore_n 3, 1), (51, .iconst 0, 1), (52, .istore 4, 2), (54, .iload 4, 2), (56, .aload_n 0, 1), (57, .invokevirtual 74, 3), (60, .if_icmp .ge 101, 3), (63, .iconst 0, 1), (64, .istore 5, 2), (66, .iload 5, 2), (68, .aload_n 0, 1), (69, .invokevirtual 74, 3), (72, .if_icmp .ge 83, 3), (75, .aload_n 0, 1), (76, .iload_n 1, 1), (77, .iconst 0, 1), (78, .invokevirtual 399, 3), (81, .iload 4, 2), (83, .invokestatic 127, 3), (86, .ifCond .eq 63, 3), (89, .aload_n 0, 1), (90, .iload_n 1, 1), (91, .iconst 1, 1), (92, .invokevirtual 399, 3), (95, .iload 5, 2), (97, .invokestatic 127, 3), (100, .ifCond .ne 6, 3), (103, .goto 46, 3), (106, .aload_n 0, 1), (107, .iload 4, 2), (109, .iload 5, 2), (111, .invokevirtual 381, 3), (114, .aload_n 0, 1), (115, .iload 5, 2), (117, .iload 4, 2), (119, .invokevirtual 381, 3), (122, .isub, 1), (123, .invokestatic 417, 3), (126, .istore 6, 2), (128, .iload 6, 2), (130, .iload_n 3, 1), (131, .if_icmp .lt 6, 3), (134, .goto 15, 3), (137, .bipush 10, 2), (139, .iload 4, 2), (141, .imul, 1), (142, .iload 5, 2), (144, .iadd, 1), (145, .istore_n 2, 1), (146, .iload 6, 2), (148, .istore_n 3, 1), (149, .iinc 5 1, 3), (152, .goto (-86), 3), (155, .iinc 4 1, 3), (158, .goto (-104), 3), (161, .iload_n 2, 1), (162, .ireturn, 1)]
theorem dt_X12_fair : ∀ q ∈ D_X12_fair, decode cX12_fair q.1 = .ok q.2 := by decide +kernel
theorem mv_X12_fair : ea_MV yX12_fair (F_X12_fair) 1 := ⟨⟨List.mem_append_right _ (List.mem_of_getElem? (i := 13) (by decide +kernel)), List.mem_append_right _ (List.mem_of_getElem? (i := 1914) (by decide +kernel)), ⟨by decide, by decide⟩, by decide +kernel⟩, List.mem_append_right _ (List.mem_of_getElem? (i := 1912) (by decide +kernel)), List.mem_append_right _ (List.mem_of_getElem? (i := 1913) (by decide +kernel))⟩
def f_X12_fair_j149 (p1 : Int32) (s54 : Int32 × Int32 × Int32 × ea_M) (x22 : Int32) (x23 : Int32) (x24 : Int32) (m25 : ea_M) : Option ((Int32 × Int32 × Int32 × ea_M) ⊕ (Int32 × Int32 × ea_M)) :=
  some (.inl (x22, x23, x24 + 1, m25))
def f_X12_fair_s66 (p1 : Int32) (s54 : Int32 × Int32 × Int32 × ea_M)  (s66 : Int32 × Int32 × Int32 × ea_M) : Option ((Int32 × Int32 × Int32 × ea_M) ⊕ (Int32 × Int32 × ea_M)) :=
  ea_cl (f_X12_birds s66.2.2.2) fun r17 m16 =>
  if r17 ≤ s66.2.2.1 then
  some (.inr (s66.1, s66.2.1, m16))
  else
  ea_cl (f_X12_choices p1 0 m16) fun r19 m18 =>
  ea_cl (f_X12_has r19 s54.2.2.1 m18) fun r21 m20 =>
  if r21 = 0 then
  f_X12_fair_j149 p1 s54 s66.1 s66.2.1 s66.2.2.1 m20
  else
  ea_cl (f_X12_choices p1 1 m20) fun r27 m26 =>
  ea_cl (f_X12_has r27 s66.2.2.1 m26) fun r29 m28 =>
  if r29 = 0 then
  f_X12_fair_j149 p1 s54 s66.1 s66.2.1 s66.2.2.1 m28
  else
  ea_cl (f_X12_firstHas s54.2.2.1 s66.2.2.1 m28) fun r31 m30 =>
  ea_cl (f_X12_firstHas s66.2.2.1 s54.2.2.1 m30) fun r33 m32 =>
  ea_bd (ea_abs (r31 - r33)) fun x34 =>
  if x34 < s66.2.1 then
  ea_bd ((10 * s54.2.2.1) + s66.2.2.1) fun x35 =>
  f_X12_fair_j149 p1 s54 x35 x34 s66.2.2.1 m32
  else
  f_X12_fair_j149 p1 s54 s66.1 s66.2.1 s66.2.2.1 m32
def f_X12_fair_s54 (p1 : Int32)  (s54 : Int32 × Int32 × Int32 × ea_M) : Option ((Int32 × Int32 × Int32 × ea_M) ⊕ (Int32 × ea_M)) :=
  ea_cl (f_X12_birds s54.2.2.2) fun r15 m14 =>
  if r15 ≤ s54.2.2.1 then
  some (.inr (s54.1, m14))
  else
  (ea_loop (f_X12_fair_s66 p1 s54) ea_fuel (s54.1, s54.2.1, 0, m14)).bind (fun x66s =>
  some (.inl (x66s.1, x66s.2.1, s54.2.2.1 + 1, x66s.2.2)))
def f_X12_fair_j32 (p1 : Int32) (x8 : Int32) (m9 : ea_M) : Option (Int32 × ea_M) :=
  ea_cl (f_X12_throwsIf x8 2 m9) fun r11 m10 =>
  if r11 = 0 then
  ea_cl (f_X12_laysAllGoods m10) fun r13 m12 =>
  (ea_loop (f_X12_fair_s54 p1) ea_fuel ((-1), 43046722, 0, m12)).bind (fun x54s =>
  some (x54s.1, x54s.2))
  else
  some (0, m10)
def f_X12_fair (p1 : Int32) (m : ea_M) : Option (Int32 × ea_M) :=
  ea_bd (ea_st m 272 0 0) fun m1 =>
  ea_cl (f_X12_noCase p1 m1) fun r3 m2 =>
  ea_cl (f_X12_throwsIf r3 1 m2) fun r5 m4 =>
  if r5 = 0 then
  ea_cl (f_X12_isOpen p1 m4) fun r7 m6 =>
  if r7 = 0 then
  f_X12_fair_j32 p1 1 m6
  else
  f_X12_fair_j32 p1 0 m6
  else
  some (0, m4)
set_option maxHeartbeats 300000 in
theorem jn_X12_fair_149 (G : ea_G) {res : ea_O}  (p1 : Int32) (s54 : Int32 × Int32 × Int32 × ea_M) (x22 : Int32) (x23 : Int32) (x24 : Int32) (m25 : ea_M)  {Φ : ((Int32 × Int32 × Int32 × ea_M) ⊕ (Int32 × Int32 × ea_M)) → Prop} (hC : ∀ s66 : Int32 × Int32 × Int32 × ea_M, Φ (.inl s66) → ea_Ev G F_X12_fair res 66 [some (.ref 272), some (.int p1), some (.int s66.1), some (.int s66.2.1), some (.int s54.2.2.1), some (.int s66.2.2.1), none] [] s66.2.2.2 0 0) (hX : ∀ x66s : Int32 × Int32 × ea_M, Φ (.inr x66s) → ea_Ev G F_X12_fair res 155 [some (.ref 272), some (.int p1), some (.int x66s.1), some (.int x66s.2.1), some (.int s54.2.2.1), none, none] [] x66s.2.2 0 0) : ea_E G F_X12_fair res 149 [some (.ref 272), some (.int p1), some (.int x22), some (.int x23), some (.int s54.2.2.1), some (.int x24), none] [] m25 0 0 (f_X12_fair_j149 p1 s54 x22 x23 x24 m25) Φ := by
  unfold f_X12_fair_j149
  refine ev_iinc (ls' := [some (.ref 272), some (.int p1), some (.int x22), some (.int x23), some (.int s54.2.2.1), some (.int (x24 + 1)), none]) (ea_at dt_X12_fair 79 rfl) rfl (congrArg (fun z => _ + z) ic_1) (ea_lt rfl) rfl ?_
  refine ev_goto (tgt := 66) (ea_at dt_X12_fair 80 rfl) rfl ?_
  exact ev_leaf (fun h => ea_drop (l' := [some (.ref 272), some (.int p1), some (.int x22), some (.int x23), some (.int s54.2.2.1), some (.int (x24 + 1)), none]) ⟨Or.inr rfl, Or.inr rfl, Or.inr rfl, Or.inr rfl, Or.inr rfl, Or.inr rfl, Or.inl rfl, trivial⟩ (hC (x22, x23, x24 + 1, m25) h))
set_option maxHeartbeats 300000 in
theorem lp_X12_fair_66 (G : ea_G) {res : ea_O}  (p1 : Int32) (s54 : Int32 × Int32 × Int32 × ea_M)  {Ψ : (Int32 × Int32 × ea_M) → Prop} (hX : ∀ x66s : Int32 × Int32 × ea_M, Ψ x66s → ea_Ev G F_X12_fair res 155 [some (.ref 272), some (.int p1), some (.int x66s.1), some (.int x66s.2.1), some (.int s54.2.2.1), none, none] [] x66s.2.2 0 0) : ∀ (f : Nat) (s66 : Int32 × Int32 × Int32 × ea_M), ea_E G F_X12_fair res 66 [some (.ref 272), some (.int p1), some (.int s66.1), some (.int s66.2.1), some (.int s54.2.2.1), some (.int s66.2.2.1), none] [] s66.2.2.2 0 0 (ea_loop (f_X12_fair_s66 p1 s54) f s66) Ψ := by
  refine ev_loop (G := G) (F := F_X12_fair) (res := res) (pc := 66) (st := []) (k := 0) (n := 0) (step := (f_X12_fair_s66 p1 s54)) (Ψ := Ψ) (fun (s66 : Int32 × Int32 × Int32 × ea_M) => [some (.ref 272), some (.int p1), some (.int s66.1), some (.int s66.2.1), some (.int s54.2.2.1), some (.int s66.2.2.1), none]) (fun (s66 : Int32 × Int32 × Int32 × ea_M) => s66.2.2.2) (fun s66 => ?_)
  have hC : ∀ s66 : Int32 × Int32 × Int32 × ea_M, (Sum.elim (fun s66 : Int32 × Int32 × Int32 × ea_M => ea_Ev G F_X12_fair res 66 [some (.ref 272), some (.int p1), some (.int s66.1), some (.int s66.2.1), some (.int s54.2.2.1), some (.int s66.2.2.1), none] [] s66.2.2.2 0 0) Ψ) (.inl s66) → ea_Ev G F_X12_fair res 66 [some (.ref 272), some (.int p1), some (.int s66.1), some (.int s66.2.1), some (.int s54.2.2.1), some (.int s66.2.2.1), none] [] s66.2.2.2 0 0 := fun _ h => h
  have hX : ∀ x66s : Int32 × Int32 × ea_M, (Sum.elim (fun s66 : Int32 × Int32 × Int32 × ea_M => ea_Ev G F_X12_fair res 66 [some (.ref 272), some (.int p1), some (.int s66.1), some (.int s66.2.1), some (.int s54.2.2.1), some (.int s66.2.2.1), none] [] s66.2.2.2 0 0) Ψ) (.inr x66s) → ea_Ev G F_X12_fair res 155 [some (.ref 272), some (.int p1), some (.int x66s.1), some (.int x66s.2.1), some (.int s54.2.2.1), none, none] [] x66s.2.2 0 0 := hX
  unfold f_X12_fair_s66
  refine ev_iload (ea_at dt_X12_fair 37 rfl) rfl ?_
  refine ev_aload_n (ea_at dt_X12_fair 38 rfl) rfl ?_
  refine ev_clI (F1 := F_X12_birds) (fun rY mY hY => ea_runV (As := []) (ea_at dt_X12_fair 39 rfl) ml_X12_74 mv_X12_birds (ok_X12_birds G s66.2.2.2  rY mY hY) sh_272 rfl rfl rfl (Nat.le_of_ble_eq_true rfl) rfl) rfl (fun r17 m16 => ?_)
  refine ev_icmp_ge (tgt := 155) (ea_at dt_X12_fair 40 rfl) rfl (fun _ => ?_) (fun _ => ?_)
  · exact ev_leaf (fun h => ea_drop (l' := [some (.ref 272), some (.int p1), some (.int s66.1), some (.int s66.2.1), some (.int s54.2.2.1), none, none]) ⟨Or.inr rfl, Or.inr rfl, Or.inr rfl, Or.inr rfl, Or.inr rfl, Or.inl rfl, Or.inl rfl, trivial⟩ (hX (s66.1, s66.2.1, m16) h))
  · refine ev_aload_n (ea_at dt_X12_fair 41 rfl) rfl ?_
    refine ev_iload_n (ea_at dt_X12_fair 42 rfl) rfl ?_
    refine ev_iconst (ea_at dt_X12_fair 43 rfl) ic_0 ?_
    refine ev_clI (F1 := F_X12_choices) (fun rY mY hY => ea_runV (As := [.int p1, .int 0]) (ea_at dt_X12_fair 44 rfl) ml_X12_399 mv_X12_choices (ok_X12_choices G p1 0 m16  rY mY hY) sh_272 rfl rfl rfl (Nat.le_of_ble_eq_true rfl) rfl) rfl (fun r19 m18 => ?_)
    refine ev_iload (ea_at dt_X12_fair 45 rfl) rfl ?_
    refine ev_clI (F1 := F_X12_has) (fun rY mY hY => ea_runS (As := [.int r19, .int s54.2.2.1]) (ea_at dt_X12_fair 46 rfl) ml_X12_127 mv_X12_has (ok_X12_has G r19 s54.2.2.1 m18  rY mY hY) rfl rfl (Nat.le_of_ble_eq_true rfl) rfl) rfl (fun r21 m20 => ?_)
    refine ev_if_eq (tgt := 149) (ea_at dt_X12_fair 47 rfl) rfl (fun _ => ?_) (fun _ => ?_)
    · exact ev_drop (l' := [some (.ref 272), some (.int p1), some (.int s66.1), some (.int s66.2.1), some (.int s54.2.2.1), some (.int s66.2.2.1), none]) ⟨Or.inr rfl, Or.inr rfl, Or.inr rfl, Or.inr rfl, Or.inr rfl, Or.inr rfl, Or.inl rfl, trivial⟩ (jn_X12_fair_149 G p1 s54 s66.1 s66.2.1 s66.2.2.1 m20  hC hX)
    · refine ev_aload_n (ea_at dt_X12_fair 48 rfl) rfl ?_
      refine ev_iload_n (ea_at dt_X12_fair 49 rfl) rfl ?_
      refine ev_iconst (ea_at dt_X12_fair 50 rfl) ic_1 ?_
      refine ev_clI (F1 := F_X12_choices) (fun rY mY hY => ea_runV (As := [.int p1, .int 1]) (ea_at dt_X12_fair 51 rfl) ml_X12_399 mv_X12_choices (ok_X12_choices G p1 1 m20  rY mY hY) sh_272 rfl rfl rfl (Nat.le_of_ble_eq_true rfl) rfl) rfl (fun r27 m26 => ?_)
      refine ev_iload (ea_at dt_X12_fair 52 rfl) rfl ?_
      refine ev_clI (F1 := F_X12_has) (fun rY mY hY => ea_runS (As := [.int r27, .int s66.2.2.1]) (ea_at dt_X12_fair 53 rfl) ml_X12_127 mv_X12_has (ok_X12_has G r27 s66.2.2.1 m26  rY mY hY) rfl rfl (Nat.le_of_ble_eq_true rfl) rfl) rfl (fun r29 m28 => ?_)
      refine ev_if_ne (tgt := 106) (ea_at dt_X12_fair 54 rfl) rfl (fun _ => ?_) (fun _ => ?_)
      · refine ev_goto (tgt := 149) (ea_at dt_X12_fair 55 rfl) rfl ?_
        exact ev_drop (l' := [some (.ref 272), some (.int p1), some (.int s66.1), some (.int s66.2.1), some (.int s54.2.2.1), some (.int s66.2.2.1), none]) ⟨Or.inr rfl, Or.inr rfl, Or.inr rfl, Or.inr rfl, Or.inr rfl, Or.inr rfl, Or.inl rfl, trivial⟩ (jn_X12_fair_149 G p1 s54 s66.1 s66.2.1 s66.2.2.1 m28  hC hX)
      · refine ev_aload_n (ea_at dt_X12_fair 56 rfl) rfl ?_
        refine ev_iload (ea_at dt_X12_fair 57 rfl) rfl ?_
        refine ev_iload (ea_at dt_X12_fair 58 rfl) rfl ?_
        refine ev_clI (F1 := F_X12_firstHas) (fun rY mY hY => ea_runV (As := [.int s54.2.2.1, .int s66.2.2.1]) (ea_at dt_X12_fair 59 rfl) ml_X12_381 mv_X12_firstHas (ok_X12_firstHas G s54.2.2.1 s66.2.2.1 m28  rY mY hY) sh_272 rfl rfl rfl (Nat.le_of_ble_eq_true rfl) rfl) rfl (fun r31 m30 => ?_)
        refine ev_aload_n (ea_at dt_X12_fair 60 rfl) rfl ?_
        refine ev_iload (ea_at dt_X12_fair 61 rfl) rfl ?_
        refine ev_iload (ea_at dt_X12_fair 62 rfl) rfl ?_
        refine ev_clI (F1 := F_X12_firstHas) (fun rY mY hY => ea_runV (As := [.int s66.2.2.1, .int s54.2.2.1]) (ea_at dt_X12_fair 63 rfl) ml_X12_381 mv_X12_firstHas (ok_X12_firstHas G s66.2.2.1 s54.2.2.1 m30  rY mY hY) sh_272 rfl rfl rfl (Nat.le_of_ble_eq_true rfl) rfl) rfl (fun r33 m32 => ?_)
        refine ev_isub (ea_at dt_X12_fair 64 rfl) ?_
        refine ev_mabs (ea_at dt_X12_fair 65 rfl) ml_X12_417 ea_maW_abs ⟨by decide, Nat.le_of_ble_eq_true rfl, by decide, by decide⟩ ?_
        refine ev_i (fun x34 => ?_)
        refine ev_istore (ls' := [some (.ref 272), some (.int p1), some (.int s66.1), some (.int s66.2.1), some (.int s54.2.2.1), some (.int s66.2.2.1), some (.int x34)]) (ea_at dt_X12_fair 66 rfl) (ea_lt rfl) rfl ?_
        refine ev_iload (ea_at dt_X12_fair 67 rfl) rfl ?_
        refine ev_iload_n (ea_at dt_X12_fair 68 rfl) rfl ?_
        refine ev_icmp_lt (tgt := 137) (ea_at dt_X12_fair 69 rfl) rfl (fun _ => ?_) (fun _ => ?_)
        · refine ev_bipush (ea_at dt_X12_fair 71 rfl) bp_10 ?_
          refine ev_iload (ea_at dt_X12_fair 72 rfl) rfl ?_
          refine ev_imul (ea_at dt_X12_fair 73 rfl) ?_
          refine ev_iload (ea_at dt_X12_fair 74 rfl) rfl ?_
          refine ev_iadd (ea_at dt_X12_fair 75 rfl) ?_
          refine ev_i (fun x35 => ?_)
          refine ev_istore_n (ls' := [some (.ref 272), some (.int p1), some (.int x35), some (.int s66.2.1), some (.int s54.2.2.1), some (.int s66.2.2.1), some (.int x34)]) (ea_at dt_X12_fair 76 rfl) (ea_lt rfl) rfl ?_
          refine ev_iload (ea_at dt_X12_fair 77 rfl) rfl ?_
          refine ev_istore_n (ls' := [some (.ref 272), some (.int p1), some (.int x35), some (.int x34), some (.int s54.2.2.1), some (.int s66.2.2.1), some (.int x34)]) (ea_at dt_X12_fair 78 rfl) (ea_lt rfl) rfl ?_
          exact ev_drop (l' := [some (.ref 272), some (.int p1), some (.int x35), some (.int x34), some (.int s54.2.2.1), some (.int s66.2.2.1), none]) ⟨Or.inr rfl, Or.inr rfl, Or.inr rfl, Or.inr rfl, Or.inr rfl, Or.inr rfl, Or.inl rfl, trivial⟩ (jn_X12_fair_149 G p1 s54 x35 x34 s66.2.2.1 m32  hC hX)
        · refine ev_goto (tgt := 149) (ea_at dt_X12_fair 70 rfl) rfl ?_
          exact ev_drop (l' := [some (.ref 272), some (.int p1), some (.int s66.1), some (.int s66.2.1), some (.int s54.2.2.1), some (.int s66.2.2.1), none]) ⟨Or.inr rfl, Or.inr rfl, Or.inr rfl, Or.inr rfl, Or.inr rfl, Or.inr rfl, Or.inl rfl, trivial⟩ (jn_X12_fair_149 G p1 s54 s66.1 s66.2.1 s66.2.2.1 m32  hC hX)
set_option maxHeartbeats 300000 in
theorem lp_X12_fair_54 (G : ea_G) {res : ea_O}  (p1 : Int32)  {Ψ : (Int32 × ea_M) → Prop} (hX : ∀ x54s : Int32 × ea_M, Ψ x54s → ea_Ev G F_X12_fair res 161 [none, none, some (.int x54s.1), none, none, none, none] [] x54s.2 0 0) : ∀ (f : Nat) (s54 : Int32 × Int32 × Int32 × ea_M), ea_E G F_X12_fair res 54 [some (.ref 272), some (.int p1), some (.int s54.1), some (.int s54.2.1), some (.int s54.2.2.1), none, none] [] s54.2.2.2 0 0 (ea_loop (f_X12_fair_s54 p1) f s54) Ψ := by
  refine ev_loop (G := G) (F := F_X12_fair) (res := res) (pc := 54) (st := []) (k := 0) (n := 0) (step := (f_X12_fair_s54 p1)) (Ψ := Ψ) (fun (s54 : Int32 × Int32 × Int32 × ea_M) => [some (.ref 272), some (.int p1), some (.int s54.1), some (.int s54.2.1), some (.int s54.2.2.1), none, none]) (fun (s54 : Int32 × Int32 × Int32 × ea_M) => s54.2.2.2) (fun s54 => ?_)
  have hC : ∀ s54 : Int32 × Int32 × Int32 × ea_M, (Sum.elim (fun s54 : Int32 × Int32 × Int32 × ea_M => ea_Ev G F_X12_fair res 54 [some (.ref 272), some (.int p1), some (.int s54.1), some (.int s54.2.1), some (.int s54.2.2.1), none, none] [] s54.2.2.2 0 0) Ψ) (.inl s54) → ea_Ev G F_X12_fair res 54 [some (.ref 272), some (.int p1), some (.int s54.1), some (.int s54.2.1), some (.int s54.2.2.1), none, none] [] s54.2.2.2 0 0 := fun _ h => h
  have hX : ∀ x54s : Int32 × ea_M, (Sum.elim (fun s54 : Int32 × Int32 × Int32 × ea_M => ea_Ev G F_X12_fair res 54 [some (.ref 272), some (.int p1), some (.int s54.1), some (.int s54.2.1), some (.int s54.2.2.1), none, none] [] s54.2.2.2 0 0) Ψ) (.inr x54s) → ea_Ev G F_X12_fair res 161 [none, none, some (.int x54s.1), none, none, none, none] [] x54s.2 0 0 := hX
  unfold f_X12_fair_s54
  refine ev_iload (ea_at dt_X12_fair 31 rfl) rfl ?_
  refine ev_aload_n (ea_at dt_X12_fair 32 rfl) rfl ?_
  refine ev_clI (F1 := F_X12_birds) (fun rY mY hY => ea_runV (As := []) (ea_at dt_X12_fair 33 rfl) ml_X12_74 mv_X12_birds (ok_X12_birds G s54.2.2.2  rY mY hY) sh_272 rfl rfl rfl (Nat.le_of_ble_eq_true rfl) rfl) rfl (fun r15 m14 => ?_)
  refine ev_icmp_ge (tgt := 161) (ea_at dt_X12_fair 34 rfl) rfl (fun _ => ?_) (fun _ => ?_)
  · exact ev_leaf (fun h => ea_drop (l' := [none, none, some (.int s54.1), none, none, none, none]) ⟨Or.inl rfl, Or.inl rfl, Or.inr rfl, Or.inl rfl, Or.inl rfl, Or.inl rfl, Or.inl rfl, trivial⟩ (hX (s54.1, m14) h))
  · refine ev_iconst (ea_at dt_X12_fair 35 rfl) ic_0 ?_
    refine ev_istore (ls' := [some (.ref 272), some (.int p1), some (.int s54.1), some (.int s54.2.1), some (.int s54.2.2.1), some (.int 0), none]) (ea_at dt_X12_fair 36 rfl) (ea_lt rfl) rfl ?_
    refine ev_drop (l' := [some (.ref 272), some (.int p1), some (.int s54.1), some (.int s54.2.1), some (.int s54.2.2.1), some (.int 0), none]) ⟨Or.inr rfl, Or.inr rfl, Or.inr rfl, Or.inr rfl, Or.inr rfl, Or.inr rfl, Or.inl rfl, trivial⟩ ?_
    refine ev_bind (lp_X12_fair_66 G p1 s54   (fun x66s h => ?_) ea_fuel (s54.1, s54.2.1, 0, m14))
    obtain ⟨t1, e1, q1⟩ := h
    refine (?_ : ea_E G F_X12_fair res 155 [some (.ref 272), some (.int p1), some (.int x66s.1), some (.int x66s.2.1), some (.int s54.2.2.1), none, none] [] x66s.2.2 0 0 _ (Sum.elim (fun s54 : Int32 × Int32 × Int32 × ea_M => ea_Ev G F_X12_fair res 54 [some (.ref 272), some (.int p1), some (.int s54.1), some (.int s54.2.1), some (.int s54.2.2.1), none, none] [] s54.2.2.2 0 0) Ψ)) t1 e1 q1
    refine ev_iinc (ls' := [some (.ref 272), some (.int p1), some (.int x66s.1), some (.int x66s.2.1), some (.int (s54.2.2.1 + 1)), none, none]) (ea_at dt_X12_fair 81 rfl) rfl (congrArg (fun z => _ + z) ic_1) (ea_lt rfl) rfl ?_
    refine ev_goto (tgt := 54) (ea_at dt_X12_fair 82 rfl) rfl ?_
    exact ev_leaf (fun h => ea_drop (l' := [some (.ref 272), some (.int p1), some (.int x66s.1), some (.int x66s.2.1), some (.int (s54.2.2.1 + 1)), none, none]) ⟨Or.inr rfl, Or.inr rfl, Or.inr rfl, Or.inr rfl, Or.inr rfl, Or.inl rfl, Or.inl rfl, trivial⟩ (hC (x66s.1, x66s.2.1, s54.2.2.1 + 1, x66s.2.2) h))
set_option maxHeartbeats 300000 in
theorem jn_X12_fair_32 (G : ea_G) {res : ea_O}  (p1 : Int32) (x8 : Int32) (m9 : ea_M)  {Φ : (Int32 × ea_M) → Prop} (hR : ∀ t : Int32 × ea_M, Φ t → res = (0, t)) : ea_E G F_X12_fair res 32 [some (.ref 272), some (.int p1), none, none, none, none, none] [.int x8, .ref 272] m9 0 0 (f_X12_fair_j32 p1 x8 m9) Φ := by
  unfold f_X12_fair_j32
  refine ev_iconst (ea_at dt_X12_fair 18 rfl) ic_2 ?_
  refine ev_clI (F1 := F_X12_throwsIf) (fun rY mY hY => ea_runV (As := [.int x8, .int 2]) (ea_at dt_X12_fair 19 rfl) ml_X12_265 mv_X12_throwsIf (ok_X12_throwsIf G x8 2 m9  rY mY hY) sh_272 rfl rfl rfl (Nat.le_of_ble_eq_true rfl) rfl) rfl (fun r11 m10 => ?_)
  refine ev_if_eq (tgt := 41) (ea_at dt_X12_fair 20 rfl) rfl (fun _ => ?_) (fun _ => ?_)
  · refine ev_aload_n (ea_at dt_X12_fair 23 rfl) rfl ?_
    refine ev_clU (F1 := F_X12_laysAllGoods) (fun rY mY hY => ea_runV (As := []) (ea_at dt_X12_fair 24 rfl) ml_X12_378 mv_X12_laysAllGoods (ok_X12_laysAllGoods G m10  rY mY hY) sh_272 rfl rfl rfl (Nat.le_of_ble_eq_true rfl) rfl) rfl (fun r13 m12 => ?_)
    refine ev_iconst (ea_at dt_X12_fair 25 rfl) ic_m1 ?_
    refine ev_istore_n (ls' := [some (.ref 272), some (.int p1), some (.int (-1)), none, none, none, none]) (ea_at dt_X12_fair 26 rfl) (ea_lt rfl) rfl ?_
    refine ev_ldcw (ea_at dt_X12_fair 27 rfl) ki_X12_416 ?_
    refine ev_istore_n (ls' := [some (.ref 272), some (.int p1), some (.int (-1)), some (.int 43046722), none, none, none]) (ea_at dt_X12_fair 28 rfl) (ea_lt rfl) rfl ?_
    refine ev_iconst (ea_at dt_X12_fair 29 rfl) ic_0 ?_
    refine ev_istore (ls' := [some (.ref 272), some (.int p1), some (.int (-1)), some (.int 43046722), some (.int 0), none, none]) (ea_at dt_X12_fair 30 rfl) (ea_lt rfl) rfl ?_
    refine ev_drop (l' := [some (.ref 272), some (.int p1), some (.int (-1)), some (.int 43046722), some (.int 0), none, none]) ⟨Or.inr rfl, Or.inr rfl, Or.inr rfl, Or.inr rfl, Or.inr rfl, Or.inl rfl, Or.inl rfl, trivial⟩ ?_
    refine ev_bind (lp_X12_fair_54 G p1   (fun x54s h => ?_) ea_fuel ((-1), 43046722, 0, m12))
    obtain ⟨t1, e1, q1⟩ := h
    refine (?_ : ea_E G F_X12_fair res 161 [none, none, some (.int x54s.1), none, none, none, none] [] x54s.2 0 0 _ Φ) t1 e1 q1
    refine ev_iload_n (ea_at dt_X12_fair 83 rfl) rfl ?_
    exact ev_iret (ea_at dt_X12_fair 84 rfl) rfl ⟨by decide, by decide⟩ (fun h => hR _ h)
  · refine ev_iconst (ea_at dt_X12_fair 21 rfl) ic_0 ?_
    exact ev_iret (ea_at dt_X12_fair 22 rfl) rfl ⟨by decide, by decide⟩ (fun h => hR _ h)
set_option maxHeartbeats 300000 in
theorem ok_X12_fair (G : ea_G) (p1 : Int32) (m : ea_M)  (rZ : Int32) (mZ : ea_M) (hZ : f_X12_fair p1 m = some (rZ, mZ)) : ea_Met G yX12_fair F_X12_fair [.ref 272, .int p1] m (0, rZ, mZ) := by
  refine ea_met (F := F_X12_fair) (by decide +kernel) rfl rfl (Nat.le_of_ble_eq_true rfl) (by simp only [List.mem_cons, List.not_mem_nil, or_false]; intro v hv; rcases hv with rfl | rfl <;> rfl) ((?_ : ea_E G F_X12_fair (0, rZ, mZ) 0 [some (.ref 272), some (.int p1), none, none, none, none, none] [] m 0 0 (f_X12_fair p1 m) (fun t => t = (rZ, mZ))) (rZ, mZ) hZ rfl)
  have hR : ∀ t : Int32 × ea_M, t = (rZ, mZ) → ((0, rZ, mZ) : ea_O) = (0, t) := fun t h => by rw [h]
  unfold f_X12_fair
  refine ev_aload_n (ea_at dt_X12_fair 0 rfl) rfl ?_
  refine ev_iconst (ea_at dt_X12_fair 1 rfl) ic_0 ?_
  refine ev_putI (ea_at dt_X12_fair 2 rfl) fl_X12_3 fp_12_0 sh_272 rfl ?_
  refine ev_m (fun m1 => ?_)
  refine ev_aload_n (ea_at dt_X12_fair 3 rfl) rfl ?_
  refine ev_aload_n (ea_at dt_X12_fair 4 rfl) rfl ?_
  refine ev_iload_n (ea_at dt_X12_fair 5 rfl) rfl ?_
  refine ev_clI (F1 := F_X12_noCase) (fun rY mY hY => ea_runV (As := [.int p1]) (ea_at dt_X12_fair 6 rfl) ml_X12_396 mv_X12_noCase (ok_X12_noCase G p1 m1  rY mY hY) sh_272 rfl rfl rfl (Nat.le_of_ble_eq_true rfl) rfl) rfl (fun r3 m2 => ?_)
  refine ev_iconst (ea_at dt_X12_fair 7 rfl) ic_1 ?_
  refine ev_clI (F1 := F_X12_throwsIf) (fun rY mY hY => ea_runV (As := [.int r3, .int 1]) (ea_at dt_X12_fair 8 rfl) ml_X12_265 mv_X12_throwsIf (ok_X12_throwsIf G r3 1 m2  rY mY hY) sh_272 rfl rfl rfl (Nat.le_of_ble_eq_true rfl) rfl) rfl (fun r5 m4 => ?_)
  refine ev_if_ne (tgt := 39) (ea_at dt_X12_fair 9 rfl) rfl (fun _ => ?_) (fun _ => ?_)
  · refine ev_aload_n (ea_at dt_X12_fair 10 rfl) rfl ?_
    refine ev_aload_n (ea_at dt_X12_fair 11 rfl) rfl ?_
    refine ev_iload_n (ea_at dt_X12_fair 12 rfl) rfl ?_
    refine ev_clI (F1 := F_X12_isOpen) (fun rY mY hY => ea_runV (As := [.int p1]) (ea_at dt_X12_fair 13 rfl) ml_X12_407 mv_X12_isOpen (ok_X12_isOpen G p1 m4  rY mY hY) sh_272 rfl rfl rfl (Nat.le_of_ble_eq_true rfl) rfl) rfl (fun r7 m6 => ?_)
    refine ev_if_ne (tgt := 31) (ea_at dt_X12_fair 14 rfl) rfl (fun _ => ?_) (fun _ => ?_)
    · refine ev_iconst (ea_at dt_X12_fair 15 rfl) ic_1 ?_
      refine ev_goto (tgt := 32) (ea_at dt_X12_fair 16 rfl) rfl ?_
      exact ev_drop (l' := [some (.ref 272), some (.int p1), none, none, none, none, none]) ⟨Or.inr rfl, Or.inr rfl, Or.inl rfl, Or.inl rfl, Or.inl rfl, Or.inl rfl, Or.inl rfl, trivial⟩ (jn_X12_fair_32 G p1 1 m6  hR)
    · refine ev_iconst (ea_at dt_X12_fair 17 rfl) ic_0 ?_
      exact ev_drop (l' := [some (.ref 272), some (.int p1), none, none, none, none, none]) ⟨Or.inr rfl, Or.inr rfl, Or.inl rfl, Or.inl rfl, Or.inl rfl, Or.inl rfl, Or.inl rfl, trivial⟩ (jn_X12_fair_32 G p1 0 m6  hR)
  · refine ev_iconst (ea_at dt_X12_fair 21 rfl) ic_0 ?_
    exact ev_iret (ea_at dt_X12_fair 22 rfl) rfl ⟨by decide, by decide⟩ (fun h => hR _ h)
