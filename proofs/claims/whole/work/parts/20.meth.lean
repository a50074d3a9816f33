def F_X11_rests : ea_F := (ea_rm 15 2 12, cX11_rests, RX11, some .int, 10, [], 2, 12)
def D_X11_rests : List (Nat × Instr × Nat) := [(0, .aload_n 0, 1), (1, .iload_n 1, 1), (2, .invokevirtual 377, 3), (5, .aload_n 0, 1), (6, .invokevirtual 316, 3), (9, .aload_n 0, 1), (10, .getfield 23, 3), (13, .getfield 180, 3), (16, .iload_n 1, 1), (17, .iconst 0, 1), (18, .invokevirtual 205, 3), (21, .istore_n 3, 1), (22, .aload_n 0, 1), (23, .getfield 23, 3), (26, .getfield 180, 3), (29, .iload_n 1, 1), (30, .iconst 1, 1), (31, .invokevirtual 205, 3), (34, .istore 4, 2), (36, .iconst 0, 1), (37, .istore 5, 2), (39, .iconst (-1), 1), (40, .istore 6, 2), (42, .iconst 0, 1), (43, .istore 7, 2), (45, .iload 7, 2), (47, .aload_n 0, 1), (48, .getfield 23, 3), (51, .getfield 233, 3), (54, .if_icmp .ge 109, 3), (57, .iconst 0, 1), (58, .istore 8, 2), (60, .iload 8, 2), (62, .aload_n 0, 1), (63, .getfield 23, 3), (66, .getfield 233, 3), (69, .if_icmp .ge 88, 3), (72, .iload_n 3, 1), (73, .iload 7, 2), (75, .ishr, 1), (76, .iconst 1, 1), (77, .iand, 1), (78, .ifCond .eq 17, 3), (81, .iload 4, 2), (83, .iload 8, 2), (85, .ishr, 1), (86, .iconst 1, 1), (87, .iand, 1), (88, .ifCond .eq 7, 3), (91, .iconst 1, 1), (92, .goto 4, 3), (95, .iconst 0, 1), (96, .istore 9, 2), (98, .iload 9, 2), (100, .ifCond .eq 51, 3), (103, .aload_n 0, 1), (104, .iload_n 3, 1), (105, .iload 7, 2), (107, .iload 8, 2), (109, .invokevirtual 388, 3), (112, .ifCond .eq 39, 3), (115, .aload_n 0, 1), (116, .iload 4, 2), (118, .iload 8, 2), (120, .iload 7, 2), (122, .invokevirtual 388, 3), (125, .ifCond .eq 26, 3), (128, .iload 5, 2), (130, .ifCond .ne 14, 3), (133, .bipush 10, 2), (135, .iload 7, 2), (137, .imul, 1), (138, .iload 8, 2), (140, .iadd, 1), (141, .goto 5, 3), (144, .iload 6, 2), (146, .istore 6, 2), (148, .iinc 5 1, 3), (151, .iinc 8 1, 3), (154, .goto (-94), 3), (157, .iinc 7 1, 3), (160, .goto (-115), 3), (163, .iload_n 2, 1), (164, .ifCond .eq 8, 3), (167, .iload 6, 2), (169, .goto 5, 3), (172, .iload 5, 2), (174, .ireturn, 1)]
theorem dt_X11_rests : ∀ q ∈ D_X11_rests, decode cX11_rests q.1 = .ok q.2 := by decide +kernel
theorem mv_X11_rests : ea_MV yX11_rests (F_X11_rests) 2 := ⟨⟨List.mem_append_right _ (List.mem_of_getElem? (i := 1) (by decide +kernel)), List.mem_append_right _ (List.mem_of_getElem? (i := 1280) (by decide +kernel)), ⟨by decide, by decide⟩, by decide +kernel⟩, List.mem_append_right _ (List.mem_of_getElem? (i := 1278) (by decide +kernel)), List.mem_append_right _ (List.mem_of_getElem? (i := 1279) (by decide +kernel))⟩
def f_X11_rests_j151 (p2 : Int32) (r6 : Int32) (r8 : Int32) (s45 : Int32 × Int32 × Int32 × ea_M) (x21 : Int32) (x22 : Int32) (x23 : Int32) (m24 : ea_M) : Option ((Int32 × Int32 × Int32 × ea_M) ⊕ (Int32 × Int32 × ea_M)) :=
  some (.inl (x21, x22, x23 + 1, m24))
def f_X11_rests_j146 (p2 : Int32) (r6 : Int32) (r8 : Int32) (s45 : Int32 × Int32 × Int32 × ea_M) (x30 : Int32) (x31 : Int32) (x32 : Int32) (m33 : ea_M) : Option ((Int32 × Int32 × Int32 × ea_M) ⊕ (Int32 × Int32 × ea_M)) :=
  f_X11_rests_j151 p2 r6 r8 s45 (x30 + 1) x32 x31 m33
def f_X11_rests_j96 (p2 : Int32) (r6 : Int32) (r8 : Int32) (s45 : Int32 × Int32 × Int32 × ea_M) (x16 : Int32) (x17 : Int32) (x18 : Int32) (x19 : Int32) (m20 : ea_M) : Option ((Int32 × Int32 × Int32 × ea_M) ⊕ (Int32 × Int32 × ea_M)) :=
  if x19 = 0 then
  f_X11_rests_j151 p2 r6 r8 s45 x16 x17 x18 m20
  else
  ea_cl (f_X11_isBestOf r6 s45.2.2.1 x18 m20) fun r26 m25 =>
  if r26 = 0 then
  f_X11_rests_j151 p2 r6 r8 s45 x16 x17 x18 m25
  else
  ea_cl (f_X11_isBestOf r8 x18 s45.2.2.1 m25) fun r28 m27 =>
  if r28 = 0 then
  f_X11_rests_j151 p2 r6 r8 s45 x16 x17 x18 m27
  else
  if x16 = 0 then
  ea_bd ((10 * s45.2.2.1) + x18) fun x29 =>
  f_X11_rests_j146 p2 r6 r8 s45 x16 x18 x29 m27
  else
  f_X11_rests_j146 p2 r6 r8 s45 x16 x18 x17 m27
def f_X11_rests_j95 (p2 : Int32) (r6 : Int32) (r8 : Int32) (s45 : Int32 × Int32 × Int32 × ea_M) (x12 : Int32) (x13 : Int32) (x14 : Int32) (m15 : ea_M) : Option ((Int32 × Int32 × Int32 × ea_M) ⊕ (Int32 × Int32 × ea_M)) :=
  f_X11_rests_j96 p2 r6 r8 s45 x12 x13 x14 0 m15
def f_X11_rests_s60 (p2 : Int32) (r6 : Int32) (r8 : Int32) (s45 : Int32 × Int32 × Int32 × ea_M)  (s60 : Int32 × Int32 × Int32 × ea_M) : Option ((Int32 × Int32 × Int32 × ea_M) ⊕ (Int32 × Int32 × ea_M)) :=
  ea_bd (s60.2.2.2 2 8) fun x10 =>
  if x10 ≤ s60.2.2.1 then
  some (.inr (s60.1, s60.2.1, s60.2.2.2))
  else
  ea_bd ((r6 >>> (s45.2.2.1 &&& 31)) &&& 1) fun x11 =>
  if x11 = 0 then
  f_X11_rests_j95 p2 r6 r8 s45 s60.1 s60.2.1 s60.2.2.1 s60.2.2.2
  else
  ea_bd ((r8 >>> (s60.2.2.1 &&& 31)) &&& 1) fun x34 =>
  if x34 = 0 then
  f_X11_rests_j95 p2 r6 r8 s45 s60.1 s60.2.1 s60.2.2.1 s60.2.2.2
  else
  f_X11_rests_j96 p2 r6 r8 s45 s60.1 s60.2.1 s60.2.2.1 1 s60.2.2.2
def f_X11_rests_s45 (p2 : Int32) (r6 : Int32) (r8 : Int32)  (s45 : Int32 × Int32 × Int32 × ea_M) : Option ((Int32 × Int32 × Int32 × ea_M) ⊕ (Int32 × Int32 × ea_M)) :=
  ea_bd (s45.2.2.2 2 8) fun x9 =>
  if x9 ≤ s45.2.2.1 then
  some (.inr (s45.1, s45.2.1, s45.2.2.2))
  else
  (ea_loop (f_X11_rests_s60 p2 r6 r8 s45) ea_fuel (s45.1, s45.2.1, 0, s45.2.2.2)).bind (fun x60s =>
  some (.inl (x60s.1, x60s.2.1, s45.2.2.1 + 1, x60s.2.2)))
def f_X11_rests (p1 : Int32) (p2 : Int32) (m : ea_M) : Option (ea_O) :=
  ea_cx (f_X11_needOpenCase p1 m) (fun r2 m1 =>
  ea_cl (f_X11_reckonFates m1) fun r4 m3 =>
  ea_cl (f_X1_choices 8 p1 0 m3) fun r6 m5 =>
  ea_cl (f_X1_choices 8 p1 1 m5) fun r8 m7 =>
  (ea_loop (f_X11_rests_s45 p2 r6 r8) ea_fuel (0, (-1), 0, m7)).bind (fun x45s =>
  if p2 = 0 then
  some (0, x45s.1, x45s.2.2)
  else
  some (0, x45s.2.1, x45s.2.2))) (fun kx mx => some (kx, 0, mx))
set_option maxHeartbeats 300000 in
theorem jn_X11_rests_151 (G : ea_G) {res : ea_O}  (p2 : Int32) (r6 : Int32) (r8 : Int32) (s45 : Int32 × Int32 × Int32 × ea_M) (x21 : Int32) (x22 : Int32) (x23 : Int32) (m24 : ea_M)  {Φ : ((Int32 × Int32 × Int32 × ea_M) ⊕ (Int32 × Int32 × ea_M)) → Prop} (hC : ∀ s60 : Int32 × Int32 × Int32 × ea_M, Φ (.inl s60) → ea_Ev G F_X11_rests res 60 [some (.ref 0), none, some (.int p2), some (.int r6), some (.int r8), some (.int s60.1), some (.int s60.2.1), some (.int s45.2.2.1), some (.int s60.2.2.1), none] [] s60.2.2.2 2 12) (hX : ∀ x60s : Int32 × Int32 × ea_M, Φ (.inr x60s) → ea_Ev G F_X11_rests res 157 [some (.ref 0), none, some (.int p2), some (.int r6), some (.int r8), some (.int x60s.1), some (.int x60s.2.1), some (.int s45.2.2.1), none, none] [] x60s.2.2 2 12) : ea_E G F_X11_rests res 151 [some (.ref 0), none, some (.int p2), some (.int r6), some (.int r8), some (.int x21), some (.int x22), some (.int s45.2.2.1), some (.int x23), none] [] m24 2 12 (f_X11_rests_j151 p2 r6 r8 s45 x21 x22 x23 m24) Φ := by
  unfold f_X11_rests_j151
  refine ev_iinc (ls' := [some (.ref 0), none, some (.int p2), some (.int r6), some (.int r8), some (.int x21), some (.int x22), some (.int s45.2.2.1), some (.int (x23 + 1)), none]) (ea_at dt_X11_rests 78 rfl) rfl (congrArg (fun z => _ + z) ic_1) (ea_lt rfl) rfl ?_
  refine ev_goto (tgt := 60) (ea_at dt_X11_rests 79 rfl) rfl ?_
  exact ev_leaf (fun h => ea_drop (l' := [some (.ref 0), none, some (.int p2), some (.int r6), some (.int r8), some (.int x21), some (.int x22), some (.int s45.2.2.1), some (.int (x23 + 1)), none]) ⟨Or.inr rfl, Or.inl rfl, Or.inr rfl, Or.inr rfl, Or.inr rfl, Or.inr rfl, Or.inr rfl, Or.inr rfl, Or.inr rfl, Or.inl rfl, trivial⟩ (hC (x21, x22, x23 + 1, m24) h))
set_option maxHeartbeats 300000 in
theorem jn_X11_rests_146 (G : ea_G) {res : ea_O}  (p2 : Int32) (r6 : Int32) (r8 : Int32) (s45 : Int32 × Int32 × Int32 × ea_M) (x30 : Int32) (x31 : Int32) (x32 : Int32) (m33 : ea_M)  {Φ : ((Int32 × Int32 × Int32 × ea_M) ⊕ (Int32 × Int32 × ea_M)) → Prop} (hC : ∀ s60 : Int32 × Int32 × Int32 × ea_M, Φ (.inl s60) → ea_Ev G F_X11_rests res 60 [some (.ref 0), none, some (.int p2), some (.int r6), some (.int r8), some (.int s60.1), some (.int s60.2.1), some (.int s45.2.2.1), some (.int s60.2.2.1), none] [] s60.2.2.2 2 12) (hX : ∀ x60s : Int32 × Int32 × ea_M, Φ (.inr x60s) → ea_Ev G F_X11_rests res 157 [some (.ref 0), none, some (.int p2), some (.int r6), some (.int r8), some (.int x60s.1), some (.int x60s.2.1), some (.int s45.2.2.1), none, none] [] x60s.2.2 2 12) : ea_E G F_X11_rests res 146 [some (.ref 0), none, some (.int p2), some (.int r6), some (.int r8), some (.int x30), none, some (.int s45.2.2.1), some (.int x31), none] [.int x32] m33 2 12 (f_X11_rests_j146 p2 r6 r8 s45 x30 x31 x32 m33) Φ := by
  unfold f_X11_rests_j146
  refine ev_istore (ls' := [some (.ref 0), none, some (.int p2), some (.int r6), some (.int r8), some (.int x30), some (.int x32), some (.int s45.2.2.1), some (.int x31), none]) (ea_at dt_X11_rests 76 rfl) (ea_lt rfl) rfl ?_
  refine ev_iinc (ls' := [some (.ref 0), none, some (.int p2), some (.int r6), some (.int r8), some (.int (x30 + 1)), some (.int x32), some (.int s45.2.2.1), some (.int x31), none]) (ea_at dt_X11_rests 77 rfl) rfl (congrArg (fun z => _ + z) ic_1) (ea_lt rfl) rfl ?_
  exact ev_drop (l' := [some (.ref 0), none, some (.int p2), some (.int r6), some (.int r8), some (.int (x30 + 1)), some (.int x32), some (.int s45.2.2.1), some (.int x31), none]) ⟨Or.inr rfl, Or.inl rfl, Or.inr rfl, Or.inr rfl, Or.inr rfl, Or.inr rfl, Or.inr rfl, Or.inr rfl, Or.inr rfl, Or.inl rfl, trivial⟩ (jn_X11_rests_151 G p2 r6 r8 s45 (x30 + 1) x32 x31 m33  hC hX)
set_option maxHeartbeats 300000 in
theorem jn_X11_rests_96 (G : ea_G) {res : ea_O}  (p2 : Int32) (r6 : Int32) (r8 : Int32) (s45 : Int32 × Int32 × Int32 × ea_M) (x16 : Int32) (x17 : Int32) (x18 : Int32) (x19 : Int32) (m20 : ea_M)  {Φ : ((Int32 × Int32 × Int32 × ea_M) ⊕ (Int32 × Int32 × ea_M)) → Prop} (hC : ∀ s60 : Int32 × Int32 × Int32 × ea_M, Φ (.inl s60) → ea_Ev G F_X11_rests res 60 [some (.ref 0), none, some (.int p2), some (.int r6), some (.int r8), some (.int s60.1), some (.int s60.2.1), some (.int s45.2.2.1), some (.int s60.2.2.1), none] [] s60.2.2.2 2 12) (hX : ∀ x60s : Int32 × Int32 × ea_M, Φ (.inr x60s) → ea_Ev G F_X11_rests res 157 [some (.ref 0), none, some (.int p2), some (.int r6), some (.int r8), some (.int x60s.1), some (.int x60s.2.1), some (.int s45.2.2.1), none, none] [] x60s.2.2 2 12) : ea_E G F_X11_rests res 96 [some (.ref 0), none, some (.int p2), some (.int r6), some (.int r8), some (.int x16), some (.int x17), some (.int s45.2.2.1), some (.int x18), none] [.int x19] m20 2 12 (f_X11_rests_j96 p2 r6 r8 s45 x16 x17 x18 x19 m20) Φ := by
  unfold f_X11_rests_j96
  refine ev_istore (ls' := [some (.ref 0), none, some (.int p2), some (.int r6), some (.int r8), some (.int x16), some (.int x17), some (.int s45.2.2.1), some (.int x18), some (.int x19)]) (ea_at dt_X11_rests 52 rfl) (ea_lt rfl) rfl ?_
  refine ev_iload (ea_at dt_X11_rests 53 rfl) rfl ?_
  refine ev_if_eq (tgt := 151) (ea_at dt_X11_rests 54 rfl) rfl (fun _ => ?_) (fun _ => ?_)
  · exact ev_drop (l' := [some (.ref 0), none, some (.int p2), some (.int r6), some (.int r8), some (.int x16), some (.int x17), some (.int s45.2.2.1), some (.int x18), none]) ⟨Or.inr rfl, Or.inl rfl, Or.inr rfl, Or.inr rfl, Or.inr rfl, Or.inr rfl, Or.inr rfl, Or.inr rfl, Or.inr rfl, Or.inl rfl, trivial⟩ (jn_X11_rests_151 G p2 r6 r8 s45 x16 x17 x18 m20  hC hX)
  · refine ev_aload_n (ea_at dt_X11_rests 55 rfl) rfl ?_
    refine ev_iload_n (ea_at dt_X11_rests 56 rfl) rfl ?_
    refine ev_iload (ea_at dt_X11_rests 57 rfl) rfl ?_
    refine ev_iload (ea_at dt_X11_rests 58 rfl) rfl ?_
    refine ev_clI (F1 := F_X11_isBestOf) (fun rY mY hY => ea_runV (As := [.int r6, .int s45.2.2.1, .int x18]) (ea_at dt_X11_rests 59 rfl) ml_X11_388 mv_X11_isBestOf (ok_X11_isBestOf G r6 s45.2.2.1 x18 m20  rY mY hY) sh_0 rfl rfl rfl (Nat.le_of_ble_eq_true rfl) rfl) rfl (fun r26 m25 => ?_)
    refine ev_if_eq (tgt := 151) (ea_at dt_X11_rests 60 rfl) rfl (fun _ => ?_) (fun _ => ?_)
    · exact ev_drop (l' := [some (.ref 0), none, some (.int p2), some (.int r6), some (.int r8), some (.int x16), some (.int x17), some (.int s45.2.2.1), some (.int x18), none]) ⟨Or.inr rfl, Or.inl rfl, Or.inr rfl, Or.inr rfl, Or.inr rfl, Or.inr rfl, Or.inr rfl, Or.inr rfl, Or.inr rfl, Or.inl rfl, trivial⟩ (jn_X11_rests_151 G p2 r6 r8 s45 x16 x17 x18 m25  hC hX)
    · refine ev_aload_n (ea_at dt_X11_rests 61 rfl) rfl ?_
      refine ev_iload (ea_at dt_X11_rests 62 rfl) rfl ?_
      refine ev_iload (ea_at dt_X11_rests 63 rfl) rfl ?_
      refine ev_iload (ea_at dt_X11_rests 64 rfl) rfl ?_
      refine ev_clI (F1 := F_X11_isBestOf) (fun rY mY hY => ea_runV (As := [.int r8, .int x18, .int s45.2.2.1]) (ea_at dt_X11_rests 65 rfl) ml_X11_388 mv_X11_isBestOf (ok_X11_isBestOf G r8 x18 s45.2.2.1 m25  rY mY hY) sh_0 rfl rfl rfl (Nat.le_of_ble_eq_true rfl) rfl) rfl (fun r28 m27 => ?_)
      refine ev_if_eq (tgt := 151) (ea_at dt_X11_rests 66 rfl) rfl (fun _ => ?_) (fun _ => ?_)
      · exact ev_drop (l' := [some (.ref 0), none, some (.int p2), some (.int r6), some (.int r8), some (.int x16), some (.int x17), some (.int s45.2.2.1), some (.int x18), none]) ⟨Or.inr rfl, Or.inl rfl, Or.inr rfl, Or.inr rfl, Or.inr rfl, Or.inr rfl, Or.inr rfl, Or.inr rfl, Or.inr rfl, Or.inl rfl, trivial⟩ (jn_X11_rests_151 G p2 r6 r8 s45 x16 x17 x18 m27  hC hX)
      · refine ev_iload (ea_at dt_X11_rests 67 rfl) rfl ?_
        refine ev_if_ne (tgt := 144) (ea_at dt_X11_rests 68 rfl) rfl (fun _ => ?_) (fun _ => ?_)
        · refine ev_bipush (ea_at dt_X11_rests 69 rfl) bp_10 ?_
          refine ev_iload (ea_at dt_X11_rests 70 rfl) rfl ?_
          refine ev_imul (ea_at dt_X11_rests 71 rfl) ?_
          refine ev_iload (ea_at dt_X11_rests 72 rfl) rfl ?_
          refine ev_iadd (ea_at dt_X11_rests 73 rfl) ?_
          refine ev_i (fun x29 => ?_)
          refine ev_goto (tgt := 146) (ea_at dt_X11_rests 74 rfl) rfl ?_
          exact ev_drop (l' := [some (.ref 0), none, some (.int p2), some (.int r6), some (.int r8), some (.int x16), none, some (.int s45.2.2.1), some (.int x18), none]) ⟨Or.inr rfl, Or.inl rfl, Or.inr rfl, Or.inr rfl, Or.inr rfl, Or.inr rfl, Or.inl rfl, Or.inr rfl, Or.inr rfl, Or.inl rfl, trivial⟩ (jn_X11_rests_146 G p2 r6 r8 s45 x16 x18 x29 m27  hC hX)
        · refine ev_iload (ea_at dt_X11_rests 75 rfl) rfl ?_
          exact ev_drop (l' := [some (.ref 0), none, some (.int p2), some (.int r6), some (.int r8), some (.int x16), none, some (.int s45.2.2.1), some (.int x18), none]) ⟨Or.inr rfl, Or.inl rfl, Or.inr rfl, Or.inr rfl, Or.inr rfl, Or.inr rfl, Or.inl rfl, Or.inr rfl, Or.inr rfl, Or.inl rfl, trivial⟩ (jn_X11_rests_146 G p2 r6 r8 s45 x16 x18 x17 m27  hC hX)
set_option maxHeartbeats 300000 in
theorem jn_X11_rests_95 (G : ea_G) {res : ea_O}  (p2 : Int32) (r6 : Int32) (r8 : Int32) (s45 : Int32 × Int32 × Int32 × ea_M) (x12 : Int32) (x13 : Int32) (x14 : Int32) (m15 : ea_M)  {Φ : ((Int32 × Int32 × Int32 × ea_M) ⊕ (Int32 × Int32 × ea_M)) → Prop} (hC : ∀ s60 : Int32 × Int32 × Int32 × ea_M, Φ (.inl s60) → ea_Ev G F_X11_rests res 60 [some (.ref 0), none, some (.int p2), some (.int r6), some (.int r8), some (.int s60.1), some (.int s60.2.1), some (.int s45.2.2.1), some (.int s60.2.2.1), none] [] s60.2.2.2 2 12) (hX : ∀ x60s : Int32 × Int32 × ea_M, Φ (.inr x60s) → ea_Ev G F_X11_rests res 157 [some (.ref 0), none, some (.int p2), some (.int r6), some (.int r8), some (.int x60s.1), some (.int x60s.2.1), some (.int s45.2.2.1), none, none] [] x60s.2.2 2 12) : ea_E G F_X11_rests res 95 [some (.ref 0), none, some (.int p2), some (.int r6), some (.int r8), some (.int x12), some (.int x13), some (.int s45.2.2.1), some (.int x14), none] [] m15 2 12 (f_X11_rests_j95 p2 r6 r8 s45 x12 x13 x14 m15) Φ := by
  unfold f_X11_rests_j95
  refine ev_iconst (ea_at dt_X11_rests 51 rfl) ic_0 ?_
  exact ev_drop (l' := [some (.ref 0), none, some (.int p2), some (.int r6), some (.int r8), some (.int x12), some (.int x13), some (.int s45.2.2.1), some (.int x14), none]) ⟨Or.inr rfl, Or.inl rfl, Or.inr rfl, Or.inr rfl, Or.inr rfl, Or.inr rfl, Or.inr rfl, Or.inr rfl, Or.inr rfl, Or.inl rfl, trivial⟩ (jn_X11_rests_96 G p2 r6 r8 s45 x12 x13 x14 0 m15  hC hX)
set_option maxHeartbeats 300000 in
theorem lp_X11_rests_60 (G : ea_G) {res : ea_O}  (p2 : Int32) (r6 : Int32) (r8 : Int32) (s45 : Int32 × Int32 × Int32 × ea_M)  {Ψ : (Int32 × Int32 × ea_M) → Prop} (hX : ∀ x60s : Int32 × Int32 × ea_M, Ψ x60s → ea_Ev G F_X11_rests res 157 [some (.ref 0), none, some (.int p2), some (.int r6), some (.int r8), some (.int x60s.1), some (.int x60s.2.1), some (.int s45.2.2.1), none, none] [] x60s.2.2 2 12) : ∀ (f : Nat) (s60 : Int32 × Int32 × Int32 × ea_M), ea_E G F_X11_rests res 60 [some (.ref 0), none, some (.int p2), some (.int r6), some (.int r8), some (.int s60.1), some (.int s60.2.1), some (.int s45.2.2.1), some (.int s60.2.2.1), none] [] s60.2.2.2 2 12 (ea_loop (f_X11_rests_s60 p2 r6 r8 s45) f s60) Ψ := by
  refine ev_loop (G := G) (F := F_X11_rests) (res := res) (pc := 60) (st := []) (k := 2) (n := 12) (step := (f_X11_rests_s60 p2 r6 r8 s45)) (Ψ := Ψ) (fun (s60 : Int32 × Int32 × Int32 × ea_M) => [some (.ref 0), none, some (.int p2), some (.int r6), some (.int r8), some (.int s60.1), some (.int s60.2.1), some (.int s45.2.2.1), some (.int s60.2.2.1), none]) (fun (s60 : Int32 × Int32 × Int32 × ea_M) => s60.2.2.2) (fun s60 => ?_)
  have hC : ∀ s60 : Int32 × Int32 × Int32 × ea_M, (Sum.elim (fun s60 : Int32 × Int32 × Int32 × ea_M => ea_Ev G F_X11_rests res 60 [some (.ref 0), none, some (.int p2), some (.int r6), some (.int r8), some (.int s60.1), some (.int s60.2.1), some (.int s45.2.2.1), some (.int s60.2.2.1), none] [] s60.2.2.2 2 12) Ψ) (.inl s60) → ea_Ev G F_X11_rests res 60 [some (.ref 0), none, some (.int p2), some (.int r6), some (.int r8), some (.int s60.1), some (.int s60.2.1), some (.int s45.2.2.1), some (.int s60.2.2.1), none] [] s60.2.2.2 2 12 := fun _ h => h
  have hX : ∀ x60s : Int32 × Int32 × ea_M, (Sum.elim (fun s60 : Int32 × Int32 × Int32 × ea_M => ea_Ev G F_X11_rests res 60 [some (.ref 0), none, some (.int p2), some (.int r6), some (.int r8), some (.int s60.1), some (.int s60.2.1), some (.int s45.2.2.1), some (.int s60.2.2.1), none] [] s60.2.2.2 2 12) Ψ) (.inr x60s) → ea_Ev G F_X11_rests res 157 [some (.ref 0), none, some (.int p2), some (.int r6), some (.int r8), some (.int x60s.1), some (.int x60s.2.1), some (.int s45.2.2.1), none, none] [] x60s.2.2 2 12 := hX
  unfold f_X11_rests_s60
  refine ev_iload (ea_at dt_X11_rests 32 rfl) rfl ?_
  refine ev_aload_n (ea_at dt_X11_rests 33 rfl) rfl ?_
  refine ev_getR (ea_at dt_X11_rests 34 rfl) fl_X11_23 sh_0 rfl ?_
  refine ev_getI (ea_at dt_X11_rests 35 rfl) fl_X11_233 sh_2 rfl ?_
  refine ev_i (fun x10 => ?_)
  refine ev_icmp_ge (tgt := 157) (ea_at dt_X11_rests 36 rfl) rfl (fun _ => ?_) (fun _ => ?_)
  · exact ev_leaf (fun h => ea_drop (l' := [some (.ref 0), none, some (.int p2), some (.int r6), some (.int r8), some (.int s60.1), some (.int s60.2.1), some (.int s45.2.2.1), none, none]) ⟨Or.inr rfl, Or.inl rfl, Or.inr rfl, Or.inr rfl, Or.inr rfl, Or.inr rfl, Or.inr rfl, Or.inr rfl, Or.inl rfl, Or.inl rfl, trivial⟩ (hX (s60.1, s60.2.1, s60.2.2.2) h))
  · refine ev_iload_n (ea_at dt_X11_rests 37 rfl) rfl ?_
    refine ev_iload (ea_at dt_X11_rests 38 rfl) rfl ?_
    refine ev_ishr (ea_at dt_X11_rests 39 rfl) ?_
    refine ev_iconst (ea_at dt_X11_rests 40 rfl) ic_1 ?_
    refine ev_iand (ea_at dt_X11_rests 41 rfl) ?_
    refine ev_i (fun x11 => ?_)
    refine ev_if_eq (tgt := 95) (ea_at dt_X11_rests 42 rfl) rfl (fun _ => ?_) (fun _ => ?_)
    · exact ev_drop (l' := [some (.ref 0), none, some (.int p2), some (.int r6), some (.int r8), some (.int s60.1), some (.int s60.2.1), some (.int s45.2.2.1), some (.int s60.2.2.1), none]) ⟨Or.inr rfl, Or.inl rfl, Or.inr rfl, Or.inr rfl, Or.inr rfl, Or.inr rfl, Or.inr rfl, Or.inr rfl, Or.inr rfl, Or.inl rfl, trivial⟩ (jn_X11_rests_95 G p2 r6 r8 s45 s60.1 s60.2.1 s60.2.2.1 s60.2.2.2  hC hX)
    · refine ev_iload (ea_at dt_X11_rests 43 rfl) rfl ?_
      refine ev_iload (ea_at dt_X11_rests 44 rfl) rfl ?_
      refine ev_ishr (ea_at dt_X11_rests 45 rfl) ?_
      refine ev_iconst (ea_at dt_X11_rests 46 rfl) ic_1 ?_
      refine ev_iand (ea_at dt_X11_rests 47 rfl) ?_
      refine ev_i (fun x34 => ?_)
      refine ev_if_eq (tgt := 95) (ea_at dt_X11_rests 48 rfl) rfl (fun _ => ?_) (fun _ => ?_)
      · exact ev_drop (l' := [some (.ref 0), none, some (.int p2), some (.int r6), some (.int r8), some (.int s60.1), some (.int s60.2.1), some (.int s45.2.2.1), some (.int s60.2.2.1), none]) ⟨Or.inr rfl, Or.inl rfl, Or.inr rfl, Or.inr rfl, Or.inr rfl, Or.inr rfl, Or.inr rfl, Or.inr rfl, Or.inr rfl, Or.inl rfl, trivial⟩ (jn_X11_rests_95 G p2 r6 r8 s45 s60.1 s60.2.1 s60.2.2.1 s60.2.2.2  hC hX)
      · refine ev_iconst (ea_at dt_X11_rests 49 rfl) ic_1 ?_
        refine ev_goto (tgt := 96) (ea_at dt_X11_rests 50 rfl) rfl ?_
        exact ev_drop (l' := [some (.ref 0), none, some (.int p2), some (.int r6), some (.int r8), some (.int s60.1), some (.int s60.2.1), some (.int s45.2.2.1), some (.int s60.2.2.1), none]) ⟨Or.inr rfl, Or.inl rfl, Or.inr rfl, Or.inr rfl, Or.inr rfl, Or.inr rfl, Or.inr rfl, Or.inr rfl, Or.inr rfl, Or.inl rfl, trivial⟩ (jn_X11_rests_96 G p2 r6 r8 s45 s60.1 s60.2.1 s60.2.2.1 1 s60.2.2.2  hC hX)
set_option maxHeartbeats 300000 in
theorem lp_X11_rests_45 (G : ea_G) {res : ea_O}  (p2 : Int32) (r6 : Int32) (r8 : Int32)  {Ψ : (Int32 × Int32 × ea_M) → Prop} (hX : ∀ x45s : Int32 × Int32 × ea_M, Ψ x45s → ea_Ev G F_X11_rests res 163 [none, none, some (.int p2), none, none, some (.int x45s.1), some (.int x45s.2.1), none, none, none] [] x45s.2.2 2 12) : ∀ (f : Nat) (s45 : Int32 × Int32 × Int32 × ea_M), ea_E G F_X11_rests res 45 [some (.ref 0), none, some (.int p2), some (.int r6), some (.int r8), some (.int s45.1), some (.int s45.2.1), some (.int s45.2.2.1), none, none] [] s45.2.2.2 2 12 (ea_loop (f_X11_rests_s45 p2 r6 r8) f s45) Ψ := by
  refine ev_loop (G := G) (F := F_X11_rests) (res := res) (pc := 45) (st := []) (k := 2) (n := 12) (step := (f_X11_rests_s45 p2 r6 r8)) (Ψ := Ψ) (fun (s45 : Int32 × Int32 × Int32 × ea_M) => [some (.ref 0), none, some (.int p2), some (.int r6), some (.int r8), some (.int s45.1), some (.int s45.2.1), some (.int s45.2.2.1), none, none]) (fun (s45 : Int32 × Int32 × Int32 × ea_M) => s45.2.2.2) (fun s45 => ?_)
  have hC : ∀ s45 : Int32 × Int32 × Int32 × ea_M, (Sum.elim (fun s45 : Int32 × Int32 × Int32 × ea_M => ea_Ev G F_X11_rests res 45 [some (.ref 0), none, some (.int p2), some (.int r6), some (.int r8), some (.int s45.1), some (.int s45.2.1), some (.int s45.2.2.1), none, none] [] s45.2.2.2 2 12) Ψ) (.inl s45) → ea_Ev G F_X11_rests res 45 [some (.ref 0), none, some (.int p2), some (.int r6), some (.int r8), some (.int s45.1), some (.int s45.2.1), some (.int s45.2.2.1), none, none] [] s45.2.2.2 2 12 := fun _ h => h
  have hX : ∀ x45s : Int32 × Int32 × ea_M, (Sum.elim (fun s45 : Int32 × Int32 × Int32 × ea_M => ea_Ev G F_X11_rests res 45 [some (.ref 0), none, some (.int p2), some (.int r6), some (.int r8), some (.int s45.1), some (.int s45.2.1), some (.int s45.2.2.1), none, none] [] s45.2.2.2 2 12) Ψ) (.inr x45s) → ea_Ev G F_X11_rests res 163 [none, none, some (.int p2), none, none, some (.int x45s.1), some (.int x45s.2.1), none, none, none] [] x45s.2.2 2 12 := hX
  unfold f_X11_rests_s45
  refine ev_iload (ea_at dt_X11_rests 25 rfl) rfl ?_
  refine ev_aload_n (ea_at dt_X11_rests 26 rfl) rfl ?_
  refine ev_getR (ea_at dt_X11_rests 27 rfl) fl_X11_23 sh_0 rfl ?_
  refine ev_getI (ea_at dt_X11_rests 28 rfl) fl_X11_233 sh_2 rfl ?_
  refine ev_i (fun x9 => ?_)
  refine ev_icmp_ge (tgt := 163) (ea_at dt_X11_rests 29 rfl) rfl (fun _ => ?_) (fun _ => ?_)
  · exact ev_leaf (fun h => ea_drop (l' := [none, none, some (.int p2), none, none, some (.int s45.1), some (.int s45.2.1), none, none, none]) ⟨Or.inl rfl, Or.inl rfl, Or.inr rfl, Or.inl rfl, Or.inl rfl, Or.inr rfl, Or.inr rfl, Or.inl rfl, Or.inl rfl, Or.inl rfl, trivial⟩ (hX (s45.1, s45.2.1, s45.2.2.2) h))
  · refine ev_iconst (ea_at dt_X11_rests 30 rfl) ic_0 ?_
    refine ev_istore (ls' := [some (.ref 0), none, some (.int p2), some (.int r6), some (.int r8), some (.int s45.1), some (.int s45.2.1), some (.int s45.2.2.1), some (.int 0), none]) (ea_at dt_X11_rests 31 rfl) (ea_lt rfl) rfl ?_
    refine ev_drop (l' := [some (.ref 0), none, some (.int p2), some (.int r6), some (.int r8), some (.int s45.1), some (.int s45.2.1), some (.int s45.2.2.1), some (.int 0), none]) ⟨Or.inr rfl, Or.inl rfl, Or.inr rfl, Or.inr rfl, Or.inr rfl, Or.inr rfl, Or.inr rfl, Or.inr rfl, Or.inr rfl, Or.inl rfl, trivial⟩ ?_
    refine ev_bind (lp_X11_rests_60 G p2 r6 r8 s45   (fun x60s h => ?_) ea_fuel (s45.1, s45.2.1, 0, s45.2.2.2))
    obtain ⟨t1, e1, q1⟩ := h
    refine (?_ : ea_E G F_X11_rests res 157 [some (.ref 0), none, some (.int p2), some (.int r6), some (.int r8), some (.int x60s.1), some (.int x60s.2.1), some (.int s45.2.2.1), none, none] [] x60s.2.2 2 12 _ (Sum.elim (fun s45 : Int32 × Int32 × Int32 × ea_M => ea_Ev G F_X11_rests res 45 [some (.ref 0), none, some (.int p2), some (.int r6), some (.int r8), some (.int s45.1), some (.int s45.2.1), some (.int s45.2.2.1), none, none] [] s45.2.2.2 2 12) Ψ)) t1 e1 q1
    refine ev_iinc (ls' := [some (.ref 0), none, some (.int p2), some (.int r6), some (.int r8), some (.int x60s.1), some (.int x60s.2.1), some (.int (s45.2.2.1 + 1)), none, none]) (ea_at dt_X11_rests 80 rfl) rfl (congrArg (fun z => _ + z) ic_1) (ea_lt rfl) rfl ?_
    refine ev_goto (tgt := 45) (ea_at dt_X11_rests 81 rfl) rfl ?_
    exact ev_leaf (fun h => ea_drop (l' := [some (.ref 0), none, some (.int p2), some (.int r6), some (.int r8), some (.int x60s.1), some (.int x60s.2.1), some (.int (s45.2.2.1 + 1)), none, none]) ⟨Or.inr rfl, Or.inl rfl, Or.inr rfl, Or.inr rfl, Or.inr rfl, Or.inr rfl, Or.inr rfl, Or.inr rfl, Or.inl rfl, Or.inl rfl, trivial⟩ (hC (x60s.1, x60s.2.1, s45.2.2.1 + 1, x60s.2.2) h))
set_option maxHeartbeats 300000 in
theorem ok_X11_rests (G : ea_G) (p1 : Int32) (p2 : Int32) (m : ea_M)  (zZ : ea_O) (hZ : f_X11_rests p1 p2 m = some zZ) : ea_Met G yX11_rests F_X11_rests [.ref 0, .int p1, .int p2] m zZ := by
  refine ea_met (F := F_X11_rests) (by decide +kernel) rfl rfl (Nat.le_of_ble_eq_true rfl) (by simp only [List.mem_cons, List.not_mem_nil, or_false]; intro v hv; rcases hv with rfl | rfl | rfl <;> rfl) ((?_ : ea_E G F_X11_rests zZ 0 [some (.ref 0), some (.int p1), some (.int p2), none, none, none, none, none, none, none] [] m 0 0 (f_X11_rests p1 p2 m) (fun t => t = zZ)) zZ hZ rfl)
  have hR : ∀ t : ea_O, t = zZ → zZ = t := fun t h => h.symm
  unfold f_X11_rests
  refine ev_aload_n (ea_at dt_X11_rests 0 rfl) rfl ?_
  refine ev_iload_n (ea_at dt_X11_rests 1 rfl) rfl ?_
  refine ev_cxU (F1 := F_X11_needOpenCase) rfl (fun zY hY => ea_runV (As := [.int p1]) (ea_at dt_X11_rests 2 rfl) ml_X11_377 mv_X11_needOpenCase (ok_X11_needOpenCase G p1 m  zY hY) sh_0 rfl rfl rfl (Nat.le_of_ble_eq_true rfl) rfl) rfl ⟨by decide, by decide⟩ (fun kx mx t e q => ⟨0, by cases e; exact hR _ q⟩) (fun r2 m1 => ?_)
  refine ev_aload_n (ea_at dt_X11_rests 3 rfl) rfl ?_
  refine ev_clU (F1 := F_X11_reckonFates) (fun rY mY hY => ea_runV (As := []) (ea_at dt_X11_rests 4 rfl) ml_X11_316 mv_X11_reckonFates (ok_X11_reckonFates G m1  rY mY hY) sh_0 rfl rfl rfl (Nat.le_of_ble_eq_true rfl) rfl) rfl (fun r4 m3 => ?_)
  refine ev_aload_n (ea_at dt_X11_rests 5 rfl) rfl ?_
  refine ev_getR (ea_at dt_X11_rests 6 rfl) fl_X11_23 sh_0 rfl ?_
  refine ev_getR (ea_at dt_X11_rests 7 rfl) fl_X11_180 sh_2 rfl ?_
  refine ev_iload_n (ea_at dt_X11_rests 8 rfl) rfl ?_
  refine ev_iconst (ea_at dt_X11_rests 9 rfl) ic_0 ?_
  refine ev_clI (F1 := F_X1_choices) (fun rY mY hY => ea_runV (As := [.int p1, .int 0]) (ea_at dt_X11_rests 10 rfl) ml_X11_205 mv_X1_choices (ok_X1_choices G 8 p1 0 m3 is_Bench_8 rY mY hY) sh_8 rfl rfl rfl (Nat.le_of_ble_eq_true rfl) rfl) rfl (fun r6 m5 => ?_)
  refine ev_istore_n (ls' := [some (.ref 0), some (.int p1), some (.int p2), some (.int r6), none, none, none, none, none, none]) (ea_at dt_X11_rests 11 rfl) (ea_lt rfl) rfl ?_
  refine ev_aload_n (ea_at dt_X11_rests 12 rfl) rfl ?_
  refine ev_getR (ea_at dt_X11_rests 13 rfl) fl_X11_23 sh_0 rfl ?_
  refine ev_getR (ea_at dt_X11_rests 14 rfl) fl_X11_180 sh_2 rfl ?_
  refine ev_iload_n (ea_at dt_X11_rests 15 rfl) rfl ?_
  refine ev_iconst (ea_at dt_X11_rests 16 rfl) ic_1 ?_
  refine ev_clI (F1 := F_X1_choices) (fun rY mY hY => ea_runV (As := [.int p1, .int 1]) (ea_at dt_X11_rests 17 rfl) ml_X11_205 mv_X1_choices (ok_X1_choices G 8 p1 1 m5 is_Bench_8 rY mY hY) sh_8 rfl rfl rfl (Nat.le_of_ble_eq_true rfl) rfl) rfl (fun r8 m7 => ?_)
  refine ev_istore (ls' := [some (.ref 0), some (.int p1), some (.int p2), some (.int r6), some (.int r8), none, none, none, none, none]) (ea_at dt_X11_rests 18 rfl) (ea_lt rfl) rfl ?_
  refine ev_iconst (ea_at dt_X11_rests 19 rfl) ic_0 ?_
  refine ev_istore (ls' := [some (.ref 0), some (.int p1), some (.int p2), some (.int r6), some (.int r8), some (.int 0), none, none, none, none]) (ea_at dt_X11_rests 20 rfl) (ea_lt rfl) rfl ?_
  refine ev_iconst (ea_at dt_X11_rests 21 rfl) ic_m1 ?_
  refine ev_istore (ls' := [some (.ref 0), some (.int p1), some (.int p2), some (.int r6), some (.int r8), some (.int 0), some (.int (-1)), none, none, none]) (ea_at dt_X11_rests 22 rfl) (ea_lt rfl) rfl ?_
  refine ev_iconst (ea_at dt_X11_rests 23 rfl) ic_0 ?_
  refine ev_istore (ls' := [some (.ref 0), some (.int p1), some (.int p2), some (.int r6), some (.int r8), some (.int 0), some (.int (-1)), some (.int 0), none, none]) (ea_at dt_X11_rests 24 rfl) (ea_lt rfl) rfl ?_
  refine ev_drop (l' := [some (.ref 0), none, some (.int p2), some (.int r6), some (.int r8), some (.int 0), some (.int (-1)), some (.int 0), none, none]) ⟨Or.inr rfl, Or.inl rfl, Or.inr rfl, Or.inr rfl, Or.inr rfl, Or.inr rfl, Or.inr rfl, Or.inr rfl, Or.inl rfl, Or.inl rfl, trivial⟩ ?_
  refine ev_bind (lp_X11_rests_45 G p2 r6 r8   (fun x45s h => ?_) ea_fuel (0, (-1), 0, m7))
  obtain ⟨t1, e1, q1⟩ := h
  refine (?_ : ea_E G F_X11_rests zZ 163 [none, none, some (.int p2), none, none, some (.int x45s.1), some (.int x45s.2.1), none, none, none] [] x45s.2.2 2 12 _ (fun t => t = zZ)) t1 e1 q1
  refine ev_iload_n (ea_at dt_X11_rests 82 rfl) rfl ?_
  refine ev_if_eq (tgt := 172) (ea_at dt_X11_rests 83 rfl) rfl (fun _ => ?_) (fun _ => ?_)
  · refine ev_iload (ea_at dt_X11_rests 86 rfl) rfl ?_
    exact ev_iret (ea_at dt_X11_rests 87 rfl) rfl ⟨by decide, by decide⟩ (fun h => hR _ h)
  · refine ev_iload (ea_at dt_X11_rests 84 rfl) rfl ?_
    refine ev_goto (tgt := 174) (ea_at dt_X11_rests 85 rfl) rfl ?_
    exact ev_iret (ea_at dt_X11_rests 87 rfl) rfl ⟨by decide, by decide⟩ (fun h => hR _ h)
def F_X11_fair : ea_F := (ea_rm 15 2 12, cX11_fair, RX11, some .int, 9, [], 2, 12)
def D_X11_fair : List (Nat × Instr × Nat) := [(0, .aload_n 0, 1), (1, .iload_n 1, 1), (2, .invokevirtual 377, 3), (5, .aload_n 0, 1), (6, .invokevirtual 316, 3), (9, .aload_n 0, 1), (10, .getfield 23, 3), (13, .getfield 180, 3), (16, .iload_n 1, 1), (17, .iconst 0, 1), (18, .invokevirtual 205, 3), (21, .istore_n 2, 1), (22, .aload_n 0, 1), (23, .getfield 23, 3), (26, .getfield 180, 3), (29, .iload_n 1, 1), (30, .iconst 1, 1), (31, .invokevirtual 205, 3), (34, .istore_n 3, 1), (35, .ldc_w 392, 3), (38, .istore 4, 2), (40, .iconst (-1), 1), (41, .istore 5, 2), (43, .iconst 0, 1), (44, .istore 6, 2), (46, .iload 6, 2), (48, .aload_n 0, 1), (49, .getfield 23, 3), (52, .getfield 233, 3), (55, .if_icmp .ge 94, 3), (58, .iconst 0, 1), (59, .istore 7, 2), (61, .iload 7, 2), (63, .aload_n 0, 1), (64, .getfield 23, 3), (67, .getfield 233, 3), (70, .if_icmp .ge 73, 3), (73, .iload_n 2, 1), (74, .iload 6, 2), (76, .ishr, 1), (77, .iconst 1, 1), (78, .iand, 1), (79, .ifCond .eq 58, 3), (82, .iload_n 3, 1), (83, .iload 7, 2), (85, .ishr, 1), (86, .iconst 1, 1), (87, .iand, 1), (88, .ifCond .ne 6, 3), (91, .goto 46, 3), (94, .aload_n 0, 1), (95, .iload 6, 2), (97, .iload 7, 2), (99, .invokevirtual 364, 3), (102, .aload_n 0, 1), (103, .iload 7, 2), (105, .iload 6, 2), (107, .invokevirtual 364, 3), (110, .isub, 1), (111, .invokestatic 393, 3), (114, .istore 8, 2), (116, .iload 8, 2), (118, .iload 4, 2), (120, .if_icmp .ge 17, 3), (123, .iload 8, 2), (125, .istore 4, 2), (127, .bipush 10, 2), (129, .iload 6, 2), (131, .imul, 1), (132, .iload 7, 2), (134, .iadd, 1), (135, .istore 5, 2), (137, .iinc 7 1, 3), (140, .goto (-79), 3), (143, .iinc 6 1, 3), (146, .goto (-100), 3), (149, .iload 5, 2), (151, .ireturn, 1)]
theorem dt_X11_fair : ∀ q ∈ D_X11_fair, decode cX11_fair q.1 = .ok q.2 := by decide +kernel
theorem mv_X11_fair : ea_MV yX11_fair (F_X11_fair) 1 := ⟨⟨List.mem_append_right _ (List.mem_of_getElem? (i := 1) (by decide +kernel)), List.mem_append_right _ (List.mem_of_getElem? (i := 1291) (by decide +kernel)), ⟨by decide, by decide⟩, by decide +kernel⟩, List.mem_append_right _ (List.mem_of_getElem? (i := 1289) (by decide +kernel)), List.mem_append_right _ (List.mem_of_getElem? (i := 1290) (by decide +kernel))⟩
def f_X11_fair_j137 (r6 : Int32) (r8 : Int32) (s46 : Int32 × Int32 × Int32 × ea_M) (x12 : Int32) (x13 : Int32) (x14 : Int32) (m15 : ea_M) : Option ((Int32 × Int32 × Int32 × ea_M) ⊕ (Int32 × Int32 × ea_M)) :=
  some (.inl (x12, x13, x14 + 1, m15))
def f_X11_fair_s61 (r6 : Int32) (r8 : Int32) (s46 : Int32 × Int32 × Int32 × ea_M)  (s61 : Int32 × Int32 × Int32 × ea_M) : Option ((Int32 × Int32 × Int32 × ea_M) ⊕ (Int32 × Int32 × ea_M)) :=
  ea_bd (s61.2.2.2 2 8) fun x10 =>
  if x10 ≤ s61.2.2.1 then
  some (.inr (s61.1, s61.2.1, s61.2.2.2))
  else
  ea_bd ((r6 >>> (s46.2.2.1 &&& 31)) &&& 1) fun x11 =>
  if x11 = 0 then
  f_X11_fair_j137 r6 r8 s46 s61.1 s61.2.1 s61.2.2.1 s61.2.2.2
  else
  ea_bd ((r8 >>> (s61.2.2.1 &&& 31)) &&& 1) fun x16 =>
  if x16 = 0 then
  f_X11_fair_j137 r6 r8 s46 s61.1 s61.2.1 s61.2.2.1 s61.2.2.2
  else
  ea_cl (f_X11_hasIt s46.2.2.1 s61.2.2.1 s61.2.2.2) fun r18 m17 =>
  ea_cl (f_X11_hasIt s61.2.2.1 s46.2.2.1 m17) fun r20 m19 =>
  ea_bd (ea_abs (r18 - r20)) fun x21 =>
  if s61.1 ≤ x21 then
  f_X11_fair_j137 r6 r8 s46 s61.1 s61.2.1 s61.2.2.1 m19
  else
  ea_bd ((10 * s46.2.2.1) + s61.2.2.1) fun x22 =>
  f_X11_fair_j137 r6 r8 s46 x21 x22 s61.2.2.1 m19
def f_X11_fair_s46 (r6 : Int32) (r8 : Int32)  (s46 : Int32 × Int32 × Int32 × ea_M) : Option ((Int32 × Int32 × Int32 × ea_M) ⊕ (Int32 × ea_M)) :=
  ea_bd (s46.2.2.2 2 8) fun x9 =>
  if x9 ≤ s46.2.2.1 then
  some (.inr (s46.2.1, s46.2.2.2))
  else
  (ea_loop (f_X11_fair_s61 r6 r8 s46) ea_fuel (s46.1, s46.2.1, 0, s46.2.2.2)).bind (fun x61s =>
  some (.inl (x61s.1, x61s.2.1, s46.2.2.1 + 1, x61s.2.2)))
def f_X11_fair (p1 : Int32) (m : ea_M) : Option (ea_O) :=
  ea_cx (f_X11_needOpenCase p1 m) (fun r2 m1 =>
  ea_cl (f_X11_reckonFates m1) fun r4 m3 =>
  ea_cl (f_X1_choices 8 p1 0 m3) fun r6 m5 =>
  ea_cl (f_X1_choices 8 p1 1 m5) fun r8 m7 =>
  (ea_loop (f_X11_fair_s46 r6 r8) ea_fuel (43046722, (-1), 0, m7)).bind (fun x46s =>
  some (0, x46s.1, x46s.2))) (fun kx mx => some (kx, 0, mx))
set_option maxHeartbeats 300000 in
theorem jn_X11_fair_137 (G : ea_G) {res : ea_O}  (r6 : Int32) (r8 : Int32) (s46 : Int32 × Int32 × Int32 × ea_M) (x12 : Int32) (x13 : Int32) (x14 : Int32) (m15 : ea_M)  {Φ : ((Int32 × Int32 × Int32 × ea_M) ⊕ (Int32 × Int32 × ea_M)) → Prop} (hC : ∀ s61 : Int32 × Int32 × Int32 × ea_M, Φ (.inl s61) → ea_Ev G F_X11_fair res 61 [some (.ref 0), none, some (.int r6), some (.int r8), some (.int s61.1), some (.int s61.2.1), some (.int s46.2.2.1), some (.int s61.2.2.1), none] [] s61.2.2.2 2 12) (hX : ∀ x61s : Int32 × Int32 × ea_M, Φ (.inr x61s) → ea_Ev G F_X11_fair res 143 [some (.ref 0), none, some (.int r6), some (.int r8), some (.int x61s.1), some (.int x61s.2.1), some (.int s46.2.2.1), none, none] [] x61s.2.2 2 12) : ea_E G F_X11_fair res 137 [some (.ref 0), none, some (.int r6), some (.int r8), some (.int x12), some (.int x13), some (.int s46.2.2.1), some (.int x14), none] [] m15 2 12 (f_X11_fair_j137 r6 r8 s46 x12 x13 x14 m15) Φ := by
  unfold f_X11_fair_j137
  refine ev_iinc (ls' := [some (.ref 0), none, some (.int r6), some (.int r8), some (.int x12), some (.int x13), some (.int s46.2.2.1), some (.int (x14 + 1)), none]) (ea_at dt_X11_fair 72 rfl) rfl (congrArg (fun z => _ + z) ic_1) (ea_lt rfl) rfl ?_
  refine ev_goto (tgt := 61) (ea_at dt_X11_fair 73 rfl) rfl ?_
  exact ev_leaf (fun h => ea_drop (l' := [some (.ref 0), none, some (.int r6), some (.int r8), some (.int x12), some (.int x13), some (.int s46.2.2.1), some (.int (x14 + 1)), none]) ⟨Or.inr rfl, Or.inl rfl, Or.inr rfl, Or.inr rfl, Or.inr rfl, Or.inr rfl, Or.inr rfl, Or.inr rfl, Or.inl rfl, trivial⟩ (hC (x12, x13, x14 + 1, m15) h))
set_option maxHeartbeats 300000 in
theorem lp_X11_fair_61 (G : ea_G) {res : ea_O}  (r6 : Int32) (r8 : Int32) (s46 : Int32 × Int32 × Int32 × ea_M)  {Ψ : (Int32 × Int32 × ea_M) → Prop} (hX : ∀ x61s : Int32 × Int32 × ea_M, Ψ x61s → ea_Ev G F_X11_fair res 143 [some (.ref 0), none, some (.int r6), some (.int r8), some (.int x61s.1), some (.int x61s.2.1), some (.int s46.2.2.1), none, none] [] x61s.2.2 2 12) : ∀ (f : Nat) (s61 : Int32 × Int32 × Int32 × ea_M), ea_E G F_X11_fair res 61 [some (.ref 0), none, some (.int r6), some (.int r8), some (.int s61.1), some (.int s61.2.1), some (.int s46.2.2.1), some (.int s61.2.2.1), none] [] s61.2.2.2 2 12 (ea_loop (f_X11_fair_s61 r6 r8 s46) f s61) Ψ := by
  refine ev_loop (G := G) (F := F_X11_fair) (res := res) (pc := 61) (st := []) (k := 2) (n := 12) (step := (f_X11_fair_s61 r6 r8 s46)) (Ψ := Ψ) (fun (s61 : Int32 × Int32 × Int32 × ea_M) => [some (.ref 0), none, some (.int r6), some (.int r8), some (.int s61.1), some (.int s61.2.1), some (.int s46.2.2.1), some (.int s61.2.2.1), none]) (fun (s61 : Int32 × Int32 × Int32 × ea_M) => s61.2.2.2) (fun s61 => ?_)
  have hC : ∀ s61 : Int32 × Int32 × Int32 × ea_M, (Sum.elim (fun s61 : Int32 × Int32 × Int32 × ea_M => ea_Ev G F_X11_fair res 61 [some (.ref 0), none, some (.int r6), some (.int r8), some (.int s61.1), some (.int s61.2.1), some (.int s46.2.2.1), some (.int s61.2.2.1), none] [] s61.2.2.2 2 12) Ψ) (.inl s61) → ea_Ev G F_X11_fair res 61 [some (.ref 0), none, some (.int r6), some (.int r8), some (.int s61.1), some (.int s61.2.1), some (.int s46.2.2.1), some (.int s61.2.2.1), none] [] s61.2.2.2 2 12 := fun _ h => h
  have hX : ∀ x61s : Int32 × Int32 × ea_M, (Sum.elim (fun s61 : Int32 × Int32 × Int32 × ea_M => ea_Ev G F_X11_fair res 61 [some (.ref 0), none, some (.int r6), some (.int r8), some (.int s61.1), some (.int s61.2.1), some (.int s46.2.2.1), some (.int s61.2.2.1), none] [] s61.2.2.2 2 12) Ψ) (.inr x61s) → ea_Ev G F_X11_fair res 143 [some (.ref 0), none, some (.int r6), some (.int r8), some (.int x61s.1), some (.int x61s.2.1), some (.int s46.2.2.1), none, none] [] x61s.2.2 2 12 := hX
  unfold f_X11_fair_s61
  refine ev_iload (ea_at dt_X11_fair 32 rfl) rfl ?_
  refine ev_aload_n (ea_at dt_X11_fair 33 rfl) rfl ?_
  refine ev_getR (ea_at dt_X11_fair 34 rfl) fl_X11_23 sh_0 rfl ?_
  refine ev_getI (ea_at dt_X11_fair 35 rfl) fl_X11_233 sh_2 rfl ?_
  refine ev_i (fun x10 => ?_)
  refine ev_icmp_ge (tgt := 143) (ea_at dt_X11_fair 36 rfl) rfl (fun _ => ?_) (fun _ => ?_)
  · exact ev_leaf (fun h => ea_drop (l' := [some (.ref 0), none, some (.int r6), some (.int r8), some (.int s61.1), some (.int s61.2.1), some (.int s46.2.2.1), none, none]) ⟨Or.inr rfl, Or.inl rfl, Or.inr rfl, Or.inr rfl, Or.inr rfl, Or.inr rfl, Or.inr rfl, Or.inl rfl, Or.inl rfl, trivial⟩ (hX (s61.1, s61.2.1, s61.2.2.2) h))
  · refine ev_iload_n (ea_at dt_X11_fair 37 rfl) rfl ?_
    refine ev_iload (ea_at dt_X11_fair 38 rfl) rfl ?_
    refine ev_ishr (ea_at dt_X11_fair 39 rfl) ?_
    refine ev_iconst (ea_at dt_X11_fair 40 rfl) ic_1 ?_
    refine ev_iand (ea_at dt_X11_fair 41 rfl) ?_
    refine ev_i (fun x11 => ?_)
    refine ev_if_eq (tgt := 137) (ea_at dt_X11_fair 42 rfl) rfl (fun _ => ?_) (fun _ => ?_)
    · exact ev_drop (l' := [some (.ref 0), none, some (.int r6), some (.int r8), some (.int s61.1), some (.int s61.2.1), some (.int s46.2.2.1), some (.int s61.2.2.1), none]) ⟨Or.inr rfl, Or.inl rfl, Or.inr rfl, Or.inr rfl, Or.inr rfl, Or.inr rfl, Or.inr rfl, Or.inr rfl, Or.inl rfl, trivial⟩ (jn_X11_fair_137 G r6 r8 s46 s61.1 s61.2.1 s61.2.2.1 s61.2.2.2  hC hX)
    · refine ev_iload_n (ea_at dt_X11_fair 43 rfl) rfl ?_
      refine ev_iload (ea_at dt_X11_fair 44 rfl) rfl ?_
      refine ev_ishr (ea_at dt_X11_fair 45 rfl) ?_
      refine ev_iconst (ea_at dt_X11_fair 46 rfl) ic_1 ?_
      refine ev_iand (ea_at dt_X11_fair 47 rfl) ?_
      refine ev_i (fun x16 => ?_)
      refine ev_if_ne (tgt := 94) (ea_at dt_X11_fair 48 rfl) rfl (fun _ => ?_) (fun _ => ?_)
      · refine ev_goto (tgt := 137) (ea_at dt_X11_fair 49 rfl) rfl ?_
        exact ev_drop (l' := [some (.ref 0), none, some (.int r6), some (.int r8), some (.int s61.1), some (.int s61.2.1), some (.int s46.2.2.1), some (.int s61.2.2.1), none]) ⟨Or.inr rfl, Or.inl rfl, Or.inr rfl, Or.inr rfl, Or.inr rfl, Or.inr rfl, Or.inr rfl, Or.inr rfl, Or.inl rfl, trivial⟩ (jn_X11_fair_137 G r6 r8 s46 s61.1 s61.2.1 s61.2.2.1 s61.2.2.2  hC hX)
      · refine ev_aload_n (ea_at dt_X11_fair 50 rfl) rfl ?_
        refine ev_iload (ea_at dt_X11_fair 51 rfl) rfl ?_
        refine ev_iload (ea_at dt_X11_fair 52 rfl) rfl ?_
        refine ev_clI (F1 := F_X11_hasIt) (fun rY mY hY => ea_runV (As := [.int s46.2.2.1, .int s61.2.2.1]) (ea_at dt_X11_fair 53 rfl) ml_X11_364 mv_X11_hasIt (ok_X11_hasIt G s46.2.2.1 s61.2.2.1 s61.2.2.2  rY mY hY) sh_0 rfl rfl rfl (Nat.le_of_ble_eq_true rfl) rfl) rfl (fun r18 m17 => ?_)
        refine ev_aload_n (ea_at dt_X11_fair 54 rfl) rfl ?_
        refine ev_iload (ea_at dt_X11_fair 55 rfl) rfl ?_
        refine ev_iload (ea_at dt_X11_fair 56 rfl) rfl ?_
        refine ev_clI (F1 := F_X11_hasIt) (fun rY mY hY => ea_runV (As := [.int s61.2.2.1, .int s46.2.2.1]) (ea_at dt_X11_fair 57 rfl) ml_X11_364 mv_X11_hasIt (ok_X11_hasIt G s61.2.2.1 s46.2.2.1 m17  rY mY hY) sh_0 rfl rfl rfl (Nat.le_of_ble_eq_true rfl) rfl) rfl (fun r20 m19 => ?_)
        refine ev_isub (ea_at dt_X11_fair 58 rfl) ?_
        refine ev_mabs (ea_at dt_X11_fair 59 rfl) ml_X11_393 ea_maW_abs ⟨by decide, Nat.le_of_ble_eq_true rfl, by decide, by decide⟩ ?_
        refine ev_i (fun x21 => ?_)
        refine ev_istore (ls' := [some (.ref 0), none, some (.int r6), some (.int r8), some (.int s61.1), some (.int s61.2.1), some (.int s46.2.2.1), some (.int s61.2.2.1), some (.int x21)]) (ea_at dt_X11_fair 60 rfl) (ea_lt rfl) rfl ?_
        refine ev_iload (ea_at dt_X11_fair 61 rfl) rfl ?_
        refine ev_iload (ea_at dt_X11_fair 62 rfl) rfl ?_
        refine ev_icmp_ge (tgt := 137) (ea_at dt_X11_fair 63 rfl) rfl (fun _ => ?_) (fun _ => ?_)
        · exact ev_drop (l' := [some (.ref 0), none, some (.int r6), some (.int r8), some (.int s61.1), some (.int s61.2.1), some (.int s46.2.2.1), some (.int s61.2.2.1), none]) ⟨Or.inr rfl, Or.inl rfl, Or.inr rfl, Or.inr rfl, Or.inr rfl, Or.inr rfl, Or.inr rfl, Or.inr rfl, Or.inl rfl, trivial⟩ (jn_X11_fair_137 G r6 r8 s46 s61.1 s61.2.1 s61.2.2.1 m19  hC hX)
        · refine ev_iload (ea_at dt_X11_fair 64 rfl) rfl ?_
          refine ev_istore (ls' := [some (.ref 0), none, some (.int r6), some (.int r8), some (.int x21), some (.int s61.2.1), some (.int s46.2.2.1), some (.int s61.2.2.1), some (.int x21)]) (ea_at dt_X11_fair 65 rfl) (ea_lt rfl) rfl ?_
          refine ev_bipush (ea_at dt_X11_fair 66 rfl) bp_10 ?_
          refine ev_iload (ea_at dt_X11_fair 67 rfl) rfl ?_
          refine ev_imul (ea_at dt_X11_fair 68 rfl) ?_
          refine ev_iload (ea_at dt_X11_fair 69 rfl) rfl ?_
          refine ev_iadd (ea_at dt_X11_fair 70 rfl) ?_
          refine ev_i (fun x22 => ?_)
          refine ev_istore (ls' := [some (.ref 0), none, some (.int r6), some (.int r8), some (.int x21), some (.int x22), some (.int s46.2.2.1), some (.int s61.2.2.1), some (.int x21)]) (ea_at dt_X11_fair 71 rfl) (ea_lt rfl) rfl ?_
          exact ev_drop (l' := [some (.ref 0), none, some (.int r6), some (.int r8), some (.int x21), some (.int x22), some (.int s46.2.2.1), some (.int s61.2.2.1), none]) ⟨Or.inr rfl, Or.inl rfl, Or.inr rfl, Or.inr rfl, Or.inr rfl, Or.inr rfl, Or.inr rfl, Or.inr rfl, Or.inl rfl, trivial⟩ (jn_X11_fair_137 G r6 r8 s46 x21 x22 s61.2.2.1 m19  hC hX)
set_option maxHeartbeats 300000 in
theorem lp_X11_fair_46 (G : ea_G) {res : ea_O}  (r6 : Int32) (r8 : Int32)  {Ψ : (Int32 × ea_M) → Prop} (hX : ∀ x46s : Int32 × ea_M, Ψ x46s → ea_Ev G F_X11_fair res 149 [none, none, none, none, none, some (.int x46s.1), none, none, none] [] x46s.2 2 12) : ∀ (f : Nat) (s46 : Int32 × Int32 × Int32 × ea_M), ea_E G F_X11_fair res 46 [some (.ref 0), none, some (.int r6), some (.int r8), some (.int s46.1), some (.int s46.2.1), some (.int s46.2.2.1), none, none] [] s46.2.2.2 2 12 (ea_loop (f_X11_fair_s46 r6 r8) f s46) Ψ := by
  refine ev_loop (G := G) (F := F_X11_fair) (res := res) (pc := 46) (st := []) (k := 2) (n := 12) (step := (f_X11_fair_s46 r6 r8)) (Ψ := Ψ) (fun (s46 : Int32 × Int32 × Int32 × ea_M) => [some (.ref 0), none, some (.int r6), some (.int r8), some (.int s46.1), some (.int s46.2.1), some (.int s46.2.2.1), none, none]) (fun (s46 : Int32 × Int32 × Int32 × ea_M) => s46.2.2.2) (fun s46 => ?_)
  have hC : ∀ s46 : Int32 × Int32 × Int32 × ea_M, (Sum.elim (fun s46 : Int32 × Int32 × Int32 × ea_M => ea_Ev G F_X11_fair res 46 [some (.ref 0), none, some (.int r6), some (.int r8), some (.int s46.1), some (.int s46.2.1), some (.int s46.2.2.1), none, none] [] s46.2.2.2 2 12) Ψ) (.inl s46) → ea_Ev G F_X11_fair res 46 [some (.ref 0), none, some (.int r6), some (.int r8), some (.int s46.1), some (.int s46.2.1), some (.int s46.2.2.1), none, none] [] s46.2.2.2 2 12 := fun _ h => h
  have hX : ∀ x46s : Int32 × ea_M, (Sum.elim (fun s46 : Int32 × Int32 × Int32 × ea_M => ea_Ev G F_X11_fair res 46 [some (.ref 0), none, some (.int r6), some (.int r8), some (.int s46.1), some (.int s46.2.1), some (.int s46.2.2.1), none, none] [] s46.2.2.2 2 12) Ψ) (.inr x46s) → ea_Ev G F_X11_fair res 149 [none, none, none, none, none, some (.int x46s.1), none, none, none] [] x46s.2 2 12 := hX
  unfold f_X11_fair_s46
  refine ev_iload (ea_at dt_X11_fair 25 rfl) rfl ?_
  refine ev_aload_n (ea_at dt_X11_fair 26 rfl) rfl ?_
  refine ev_getR (ea_at dt_X11_fair 27 rfl) fl_X11_23 sh_0 rfl ?_
  refine ev_getI (ea_at dt_X11_fair 28 rfl) fl_X11_233 sh_2 rfl ?_
  refine ev_i (fun x9 => ?_)
  refine ev_icmp_ge (tgt := 149) (ea_at dt_X11_fair 29 rfl) rfl (fun _ => ?_) (fun _ => ?_)
  · exact ev_leaf (fun h => ea_drop (l' := [none, none, none, none, none, some (.int s46.2.1), none, none, none]) ⟨Or.inl rfl, Or.inl rfl, Or.inl rfl, Or.inl rfl, Or.inl rfl, Or.inr rfl, Or.inl rfl, Or.inl rfl, Or.inl rfl, trivial⟩ (hX (s46.2.1, s46.2.2.2) h))
  · refine ev_iconst (ea_at dt_X11_fair 30 rfl) ic_0 ?_
    refine ev_istore (ls' := [some (.ref 0), none, some (.int r6), some (.int r8), some (.int s46.1), some (.int s46.2.1), some (.int s46.2.2.1), some (.int 0), none]) (ea_at dt_X11_fair 31 rfl) (ea_lt rfl) rfl ?_
    refine ev_drop (l' := [some (.ref 0), none, some (.int r6), some (.int r8), some (.int s46.1), some (.int s46.2.1), some (.int s46.2.2.1), some (.int 0), none]) ⟨Or.inr rfl, Or.inl rfl, Or.inr rfl, Or.inr rfl, Or.inr rfl, Or.inr rfl, Or.inr rfl, Or.inr rfl, Or.inl rfl, trivial⟩ ?_
    refine ev_bind (lp_X11_fair_61 G r6 r8 s46   (fun x61s h => ?_) ea_fuel (s46.1, s46.2.1, 0, s46.2.2.2))
    obtain ⟨t1, e1, q1⟩ := h
    refine (?_ : ea_E G F_X11_fair res 143 [some (.ref 0), none, some (.int r6), some (.int r8), some (.int x61s.1), some (.int x61s.2.1), some (.int s46.2.2.1), none, none] [] x61s.2.2 2 12 _ (Sum.elim (fun s46 : Int32 × Int32 × Int32 × ea_M => ea_Ev G F_X11_fair res 46 [some (.ref 0), none, some (.int r6), some (.int r8), some (.int s46.1), some (.int s46.2.1), some (.int s46.2.2.1), none, none] [] s46.2.2.2 2 12) Ψ)) t1 e1 q1
    refine ev_iinc (ls' := [some (.ref 0), none, some (.int r6), some (.int r8), some (.int x61s.1), some (.int x61s.2.1), some (.int (s46.2.2.1 + 1)), none, none]) (ea_at dt_X11_fair 74 rfl) rfl (congrArg (fun z => _ + z) ic_1) (ea_lt rfl) rfl ?_
    refine ev_goto (tgt := 46) (ea_at dt_X11_fair 75 rfl) rfl ?_
    exact ev_leaf (fun h => ea_drop (l' := [some (.ref 0), none, some (.int r6), some (.int r8), some (.int x61s.1), some (.int x61s.2.1), some (.int (s46.2.2.1 + 1)), none, none]) ⟨Or.inr rfl, Or.inl rfl, Or.inr rfl, Or.inr rfl, Or.inr rfl, Or.inr rfl, Or.inr rfl, Or.inl rfl, Or.inl rfl, trivial⟩ (hC (x61s.1, x61s.2.1, s46.2.2.1 + 1, x61s.2.2) h))
set_option maxHeartbeats 300000 in
theorem ok_X11_fair (G : ea_G) (p1 : Int32) (m : ea_M)  (zZ : ea_O) (hZ : f_X11_fair p1 m = some zZ) : ea_Met G yX11_fair F_X11_fair [.ref 0, .int p1] m zZ := by
  refine ea_met (F := F_X11_fair) (by decide +kernel) rfl rfl (Nat.le_of_ble_eq_true rfl) (by simp only [List.mem_cons, List.not_mem_nil, or_false]; intro v hv; rcases hv with rfl | rfl <;> rfl) ((?_ : ea_E G F_X11_fair zZ 0 [some (.ref 0), some (.int p1), none, none, none, none, none, none, none] [] m 0 0 (f_X11_fair p1 m) (fun t => t = zZ)) zZ hZ rfl)
  have hR : ∀ t : ea_O, t = zZ → zZ = t := fun t h => h.symm
  unfold f_X11_fair
  refine ev_aload_n (ea_at dt_X11_fair 0 rfl) rfl ?_
  refine ev_iload_n (ea_at dt_X11_fair 1 rfl) rfl ?_
  refine ev_cxU (F1 := F_X11_needOpenCase) rfl (fun zY hY => ea_runV (As := [.int p1]) (ea_at dt_X11_fair 2 rfl) ml_X11_377 mv_X11_needOpenCase (ok_X11_needOpenCase G p1 m  zY hY) sh_0 rfl rfl rfl (Nat.le_of_ble_eq_true rfl) rfl) rfl ⟨by decide, by decide⟩ (fun kx mx t e q => ⟨0, by cases e; exact hR _ q⟩) (fun r2 m1 => ?_)
  refine ev_aload_n (ea_at dt_X11_fair 3 rfl) rfl ?_
  refine ev_clU (F1 := F_X11_reckonFates) (fun rY mY hY => ea_runV (As := []) (ea_at dt_X11_fair 4 rfl) ml_X11_316 mv_X11_reckonFates (ok_X11_reckonFates G m1  rY mY hY) sh_0 rfl rfl rfl (Nat.le_of_ble_eq_true rfl) rfl) rfl (fun r4 m3 => ?_)
  refine ev_aload_n (ea_at dt_X11_fair 5 rfl) rfl ?_
  refine ev_getR (ea_at dt_X11_fair 6 rfl) fl_X11_23 sh_0 rfl ?_
  refine ev_getR (ea_at dt_X11_fair 7 rfl) fl_X11_180 sh_2 rfl ?_
  refine ev_iload_n (ea_at dt_X11_fair 8 rfl) rfl ?_
  refine ev_iconst (ea_at dt_X11_fair 9 rfl) ic_0 ?_
  refine ev_clI (F1 := F_X1_choices) (fun rY mY hY => ea_runV (As := [.int p1, .int 0]) (ea_at dt_X11_fair 10 rfl) ml_X11_205 mv_X1_choices (ok_X1_choices G 8 p1 0 m3 is_Bench_8 rY mY hY) sh_8 rfl rfl rfl (Nat.le_of_ble_eq_true rfl) rfl) rfl (fun r6 m5 => ?_)
  refine ev_istore_n (ls' := [some (.ref 0), some (.int p1), some (.int r6), none, none, none, none, none, none]) (ea_at dt_X11_fair 11 rfl) (ea_lt rfl) rfl ?_
  refine ev_aload_n (ea_at dt_X11_fair 12 rfl) rfl ?_
  refine ev_getR (ea_at dt_X11_fair 13 rfl) fl_X11_23 sh_0 rfl ?_
  refine ev_getR (ea_at dt_X11_fair 14 rfl) fl_X11_180 sh_2 rfl ?_
  refine ev_iload_n (ea_at dt_X11_fair 15 rfl) rfl ?_
  refine ev_iconst (ea_at dt_X11_fair 16 rfl) ic_1 ?_
  refine ev_clI (F1 := F_X1_choices) (fun rY mY hY => ea_runV (As := [.int p1, .int 1]) (ea_at dt_X11_fair 17 rfl) ml_X11_205 mv_X1_choices (ok_X1_choices G 8 p1 1 m5 is_Bench_8 rY mY hY) sh_8 rfl rfl rfl (Nat.le_of_ble_eq_true rfl) rfl) rfl (fun r8 m7 => ?_)
  refine ev_istore_n (ls' := [some (.ref 0), some (.int p1), some (.int r6), some (.int r8), none, none, none, none, none]) (ea_at dt_X11_fair 18 rfl) (ea_lt rfl) rfl ?_
  refine ev_ldcw (ea_at dt_X11_fair 19 rfl) ki_X11_392 ?_
  refine ev_istore (ls' := [some (.ref 0), some (.int p1), some (.int r6), some (.int r8), some (.int 43046722), none, none, none, none]) (ea_at dt_X11_fair 20 rfl) (ea_lt rfl) rfl ?_
  refine ev_iconst (ea_at dt_X11_fair 21 rfl) ic_m1 ?_
  refine ev_istore (ls' := [some (.ref 0), some (.int p1), some (.int r6), some (.int r8), some (.int 43046722), some (.int (-1)), none, none, none]) (ea_at dt_X11_fair 22 rfl) (ea_lt rfl) rfl ?_
  refine ev_iconst (ea_at dt_X11_fair 23 rfl) ic_0 ?_
  refine ev_istore (ls' := [some (.ref 0), some (.int p1), some (.int r6), some (.int r8), some (.int 43046722), some (.int (-1)), some (.int 0), none, none]) (ea_at dt_X11_fair 24 rfl) (ea_lt rfl) rfl ?_
  refine ev_drop (l' := [some (.ref 0), none, some (.int r6), some (.int r8), some (.int 43046722), some (.int (-1)), some (.int 0), none, none]) ⟨Or.inr rfl, Or.inl rfl, Or.inr rfl, Or.inr rfl, Or.inr rfl, Or.inr rfl, Or.inr rfl, Or.inl rfl, Or.inl rfl, trivial⟩ ?_
  refine ev_bind (lp_X11_fair_46 G r6 r8   (fun x46s h => ?_) ea_fuel (43046722, (-1), 0, m7))
  obtain ⟨t1, e1, q1⟩ := h
  refine (?_ : ea_E G F_X11_fair zZ 149 [none, none, none, none, none, some (.int x46s.1), none, none, none] [] x46s.2 2 12 _ (fun t => t = zZ)) t1 e1 q1
  refine ev_iload (ea_at dt_X11_fair 76 rfl) rfl ?_
  exact ev_iret (ea_at dt_X11_fair 77 rfl) rfl ⟨by decide, by decide⟩ (fun h => hR _ h)
def F_X11_needSongs : ea_F := (ea_rm 8 1 6, cX11_needSongs, RX11, none, 4, [], 1, 6)
def D_X11_needSongs : List (Nat × Instr × Nat) := [(0, .iload_n 1, 1), (1, .bipush 40, 2), (3, .if_icmp .gt 13, 3), (6, .iload_n 1, 1), (7, .iconst 2, 1), (8, .irem, 1), (9, .ifCond .ne 7, 3), (12, .iconst 1, 1), (13, .goto 4, 3), (16, .iconst 0, 1), (17, .istore_n 2, 1), (18, .iconst 0, 1), (19, .istore_n 3, 1), (20, .iload_n 2, 1), (21, .ifCond .eq 45, 3), (24, .iload_n 3, 1), (25, .iconst 1, 1), (26, .iadd, 1), (27, .iload_n 1, 1), (28, .if_icmp .ge 38, 3), (31, .aload_n 0, 1), (32, .getfield 9, 3), (35, .iload_n 3, 1), (36, .iaload, 1), (37, .bipush 6, 2), (39, .if_icmp .ge 19, 3), (42, .aload_n 0, 1), (43, .getfield 9, 3), (46, .iload_n 3, 1), (47, .iconst 1, 1), (48, .iadd, 1), (49, .iaload, 1), (50, .iconst 1, 1), (51, .if_icmp .gt 7, 3), (54, .iconst 1, 1), (55, .goto 4, 3), (58, .iconst 0, 1), (59, .istore_n 2, 1), (60, .iinc 3 2, 3), (63, .goto (-43), 3), (66, .iload_n 2, 1), (67, .ifCond .ne 14, 3), (70, .new 129, 3), (73, .dup, 1), (74, .ldc_w 412, 3), (77, .invokespecial 133, 3), (80, .athrow, 1), (81, .return_, 1)]
theorem dt_X11_needSongs : ∀ q ∈ D_X11_needSongs, decode cX11_needSongs q.1 = .ok q.2 := by decide +kernel
theorem mv_X11_needSongs : ea_MV yX11_needSongs (F_X11_needSongs) 1 := ⟨⟨List.mem_append_right _ (List.mem_of_getElem? (i := 1) (by decide +kernel)), List.mem_append_right _ (List.mem_of_getElem? (i := 1306) (by decide +kernel)), ⟨by decide, by decide⟩, by decide +kernel⟩, List.mem_append_right _ (List.mem_of_getElem? (i := 1305) (by decide +kernel)), List.mem_append_left _ (List.mem_of_getElem? (i := 37) (by decide +kernel))⟩
def f_X11_needSongs_j59 (p1 : Int32) (x7 : Int32) (x8 : Int32) (m9 : ea_M) : Option ((Int32 × Int32 × ea_M) ⊕ (Int32 × ea_M)) :=
  some (.inl (x8, x7 + 2, m9))
def f_X11_needSongs_j58 (p1 : Int32) (x5 : Int32) (m6 : ea_M) : Option ((Int32 × Int32 × ea_M) ⊕ (Int32 × ea_M)) :=
  f_X11_needSongs_j59 p1 x5 0 m6
def f_X11_needSongs_s20 (p1 : Int32)  (s20 : Int32 × Int32 × ea_M) : Option ((Int32 × Int32 × ea_M) ⊕ (Int32 × ea_M)) :=
  if s20.1 = 0 then
  some (.inr (s20.1, s20.2.2))
  else
  if p1 ≤ (s20.2.1 + 1) then
  some (.inr (s20.1, s20.2.2))
  else
  ea_g s20.2.1 400 (ea_bd (s20.2.2 1 (Int32.toNatClampNeg s20.2.1)) fun x4 =>
  if 6 ≤ x4 then
  f_X11_needSongs_j58 p1 s20.2.1 s20.2.2
  else
  ea_g (s20.2.1 + 1) 400 (ea_bd (s20.2.2 1 (Int32.toNatClampNeg (s20.2.1 + 1))) fun x10 =>
  if 1 < x10 then
  f_X11_needSongs_j58 p1 s20.2.1 s20.2.2
  else
  f_X11_needSongs_j59 p1 s20.2.1 1 s20.2.2))
def f_X11_needSongs_j17 (p1 : Int32) (x2 : Int32) (m3 : ea_M) : Option (ea_O) :=
  (ea_loop (f_X11_needSongs_s20 p1) ea_fuel (x2, 0, m3)).bind (fun x20s =>
  if x20s.1 = 0 then
  some (2, 0, x20s.2)
  else
  some (0, 0, x20s.2))
def f_X11_needSongs_j16 (p1 : Int32) (m1 : ea_M) : Option (ea_O) :=
  f_X11_needSongs_j17 p1 0 m1
def f_X11_needSongs (p1 : Int32) (m : ea_M) : Option (ea_O) :=
  if 40 < p1 then
  f_X11_needSongs_j16 p1 m
  else
  ea_bd (p1 - p1 / 2 * 2) fun x11 =>
  if x11 = 0 then
  f_X11_needSongs_j17 p1 1 m
  else
  f_X11_needSongs_j16 p1 m
set_option maxHeartbeats 300000 in
theorem jn_X11_needSongs_59 (G : ea_G) {res : ea_O}  (p1 : Int32) (x7 : Int32) (x8 : Int32) (m9 : ea_M)  {Φ : ((Int32 × Int32 × ea_M) ⊕ (Int32 × ea_M)) → Prop} (hC : ∀ s20 : Int32 × Int32 × ea_M, Φ (.inl s20) → ea_Ev G F_X11_needSongs res 20 [some (.ref 0), some (.int p1), some (.int s20.1), some (.int s20.2.1)] [] s20.2.2 0 0) (hX : ∀ x20s : Int32 × ea_M, Φ (.inr x20s) → ea_Ev G F_X11_needSongs res 66 [none, none, some (.int x20s.1), none] [] x20s.2 0 0) : ea_E G F_X11_needSongs res 59 [some (.ref 0), some (.int p1), none, some (.int x7)] [.int x8] m9 0 0 (f_X11_needSongs_j59 p1 x7 x8 m9) Φ := by
  unfold f_X11_needSongs_j59
  refine ev_istore_n (ls' := [some (.ref 0), some (.int p1), some (.int x8), some (.int x7)]) (ea_at dt_X11_needSongs 37 rfl) (ea_lt rfl) rfl ?_
  refine ev_iinc (ls' := [some (.ref 0), some (.int p1), some (.int x8), some (.int (x7 + 2))]) (ea_at dt_X11_needSongs 38 rfl) rfl (congrArg (fun z => _ + z) ic_2) (ea_lt rfl) rfl ?_
  refine ev_goto (tgt := 20) (ea_at dt_X11_needSongs 39 rfl) rfl ?_
  exact ev_leaf (fun h => ea_drop (l' := [some (.ref 0), some (.int p1), some (.int x8), some (.int (x7 + 2))]) ⟨Or.inr rfl, Or.inr rfl, Or.inr rfl, Or.inr rfl, trivial⟩ (hC (x8, x7 + 2, m9) h))
set_option maxHeartbeats 300000 in
theorem jn_X11_needSongs_58 (G : ea_G) {res : ea_O}  (p1 : Int32) (x5 : Int32) (m6 : ea_M)  {Φ : ((Int32 × Int32 × ea_M) ⊕ (Int32 × ea_M)) → Prop} (hC : ∀ s20 : Int32 × Int32 × ea_M, Φ (.inl s20) → ea_Ev G F_X11_needSongs res 20 [some (.ref 0), some (.int p1), some (.int s20.1), some (.int s20.2.1)] [] s20.2.2 0 0) (hX : ∀ x20s : Int32 × ea_M, Φ (.inr x20s) → ea_Ev G F_X11_needSongs res 66 [none, none, some (.int x20s.1), none] [] x20s.2 0 0) : ea_E G F_X11_needSongs res 58 [some (.ref 0), some (.int p1), none, some (.int x5)] [] m6 0 0 (f_X11_needSongs_j58 p1 x5 m6) Φ := by
  unfold f_X11_needSongs_j58
  refine ev_iconst (ea_at dt_X11_needSongs 36 rfl) ic_0 ?_
  exact ev_drop (l' := [some (.ref 0), some (.int p1), none, some (.int x5)]) ⟨Or.inr rfl, Or.inr rfl, Or.inl rfl, Or.inr rfl, trivial⟩ (jn_X11_needSongs_59 G p1 x5 0 m6  hC hX)
set_option maxHeartbeats 300000 in
theorem lp_X11_needSongs_20 (G : ea_G) {res : ea_O}  (p1 : Int32)  {Ψ : (Int32 × ea_M) → Prop} (hX : ∀ x20s : Int32 × ea_M, Ψ x20s → ea_Ev G F_X11_needSongs res 66 [none, none, some (.int x20s.1), none] [] x20s.2 0 0) : ∀ (f : Nat) (s20 : Int32 × Int32 × ea_M), ea_E G F_X11_needSongs res 20 [some (.ref 0), some (.int p1), some (.int s20.1), some (.int s20.2.1)] [] s20.2.2 0 0 (ea_loop (f_X11_needSongs_s20 p1) f s20) Ψ := by
  refine ev_loop (G := G) (F := F_X11_needSongs) (res := res) (pc := 20) (st := []) (k := 0) (n := 0) (step := (f_X11_needSongs_s20 p1)) (Ψ := Ψ) (fun (s20 : Int32 × Int32 × ea_M) => [some (.ref 0), some (.int p1), some (.int s20.1), some (.int s20.2.1)]) (fun (s20 : Int32 × Int32 × ea_M) => s20.2.2) (fun s20 => ?_)
  have hC : ∀ s20 : Int32 × Int32 × ea_M, (Sum.elim (fun s20 : Int32 × Int32 × ea_M => ea_Ev G F_X11_needSongs res 20 [some (.ref 0), some (.int p1), some (.int s20.1), some (.int s20.2.1)] [] s20.2.2 0 0) Ψ) (.inl s20) → ea_Ev G F_X11_needSongs res 20 [some (.ref 0), some (.int p1), some (.int s20.1), some (.int s20.2.1)] [] s20.2.2 0 0 := fun _ h => h
  have hX : ∀ x20s : Int32 × ea_M, (Sum.elim (fun s20 : Int32 × Int32 × ea_M => ea_Ev G F_X11_needSongs res 20 [some (.ref 0), some (.int p1), some (.int s20.1), some (.int s20.2.1)] [] s20.2.2 0 0) Ψ) (.inr x20s) → ea_Ev G F_X11_needSongs res 66 [none, none, some (.int x20s.1), none] [] x20s.2 0 0 := hX
  unfold f_X11_needSongs_s20
  refine ev_iload_n (ea_at dt_X11_needSongs 13 rfl) rfl ?_
  refine ev_if_eq (tgt := 66) (ea_at dt_X11_needSongs 14 rfl) rfl (fun _ => ?_) (fun _ => ?_)
  · exact ev_leaf (fun h => ea_drop (l' := [none, none, some (.int s20.1), none]) ⟨Or.inl rfl, Or.inl rfl, Or.inr rfl, Or.inl rfl, trivial⟩ (hX (s20.1, s20.2.2) h))
  · refine ev_iload_n (ea_at dt_X11_needSongs 15 rfl) rfl ?_
    refine ev_iconst (ea_at dt_X11_needSongs 16 rfl) ic_1 ?_
    refine ev_iadd (ea_at dt_X11_needSongs 17 rfl) ?_
    refine ev_iload_n (ea_at dt_X11_needSongs 18 rfl) rfl ?_
    refine ev_icmp_ge (tgt := 66) (ea_at dt_X11_needSongs 19 rfl) rfl (fun _ => ?_) (fun _ => ?_)
    · exact ev_leaf (fun h => ea_drop (l' := [none, none, some (.int s20.1), none]) ⟨Or.inl rfl, Or.inl rfl, Or.inr rfl, Or.inl rfl, trivial⟩ (hX (s20.1, s20.2.2) h))
    · refine ev_aload_n (ea_at dt_X11_needSongs 20 rfl) rfl ?_
      refine ev_getR (ea_at dt_X11_needSongs 21 rfl) fl_X11_9 sh_0 rfl ?_
      refine ev_iload_n (ea_at dt_X11_needSongs 22 rfl) rfl ?_
      refine ev_iaload (ea_at dt_X11_needSongs 23 rfl) sh_1 (by decide) ?_
      refine ev_i (fun x4 => ?_)
      refine ev_bipush (ea_at dt_X11_needSongs 24 rfl) bp_6 ?_
      refine ev_icmp_ge (tgt := 58) (ea_at dt_X11_needSongs 25 rfl) rfl (fun _ => ?_) (fun _ => ?_)
      · exact ev_drop (l' := [some (.ref 0), some (.int p1), none, some (.int s20.2.1)]) ⟨Or.inr rfl, Or.inr rfl, Or.inl rfl, Or.inr rfl, trivial⟩ (jn_X11_needSongs_58 G p1 s20.2.1 s20.2.2  hC hX)
      · refine ev_aload_n (ea_at dt_X11_needSongs 26 rfl) rfl ?_
        refine ev_getR (ea_at dt_X11_needSongs 27 rfl) fl_X11_9 sh_0 rfl ?_
        refine ev_iload_n (ea_at dt_X11_needSongs 28 rfl) rfl ?_
        refine ev_iconst (ea_at dt_X11_needSongs 29 rfl) ic_1 ?_
        refine ev_iadd (ea_at dt_X11_needSongs 30 rfl) ?_
        refine ev_iaload (ea_at dt_X11_needSongs 31 rfl) sh_1 (by decide) ?_
        refine ev_i (fun x10 => ?_)
        refine ev_iconst (ea_at dt_X11_needSongs 32 rfl) ic_1 ?_
        refine ev_icmp_gt (tgt := 58) (ea_at dt_X11_needSongs 33 rfl) rfl (fun _ => ?_) (fun _ => ?_)
        · exact ev_drop (l' := [some (.ref 0), some (.int p1), none, some (.int s20.2.1)]) ⟨Or.inr rfl, Or.inr rfl, Or.inl rfl, Or.inr rfl, trivial⟩ (jn_X11_needSongs_58 G p1 s20.2.1 s20.2.2  hC hX)
        · refine ev_iconst (ea_at dt_X11_needSongs 34 rfl) ic_1 ?_
          refine ev_goto (tgt := 59) (ea_at dt_X11_needSongs 35 rfl) rfl ?_
          exact ev_drop (l' := [some (.ref 0), some (.int p1), none, some (.int s20.2.1)]) ⟨Or.inr rfl, Or.inr rfl, Or.inl rfl, Or.inr rfl, trivial⟩ (jn_X11_needSongs_59 G p1 s20.2.1 1 s20.2.2  hC hX)
set_option maxHeartbeats 300000 in
theorem jn_X11_needSongs_17 (G : ea_G) {res : ea_O}  (p1 : Int32) (x2 : Int32) (m3 : ea_M)  {Φ : ea_O → Prop} (hR : ∀ t : ea_O, Φ t → res = t) : ea_E G F_X11_needSongs res 17 [some (.ref 0), some (.int p1), none, none] [.int x2] m3 0 0 (f_X11_needSongs_j17 p1 x2 m3) Φ := by
  unfold f_X11_needSongs_j17
  refine ev_istore_n (ls' := [some (.ref 0), some (.int p1), some (.int x2), none]) (ea_at dt_X11_needSongs 10 rfl) (ea_lt rfl) rfl ?_
  refine ev_iconst (ea_at dt_X11_needSongs 11 rfl) ic_0 ?_
  refine ev_istore_n (ls' := [some (.ref 0), some (.int p1), some (.int x2), some (.int 0)]) (ea_at dt_X11_needSongs 12 rfl) (ea_lt rfl) rfl ?_
  refine ev_drop (l' := [some (.ref 0), some (.int p1), some (.int x2), some (.int 0)]) ⟨Or.inr rfl, Or.inr rfl, Or.inr rfl, Or.inr rfl, trivial⟩ ?_
  refine ev_bind (lp_X11_needSongs_20 G p1   (fun x20s h => ?_) ea_fuel (x2, 0, m3))
  obtain ⟨t1, e1, q1⟩ := h
  refine (?_ : ea_E G F_X11_needSongs res 66 [none, none, some (.int x20s.1), none] [] x20s.2 0 0 _ Φ) t1 e1 q1
  refine ev_iload_n (ea_at dt_X11_needSongs 40 rfl) rfl ?_
  refine ev_if_ne (tgt := 81) (ea_at dt_X11_needSongs 41 rfl) rfl (fun _ => ?_) (fun _ => ?_)
  · exact ev_throwSW (kx := 2) (j := 45) (ea_at dt_X11_needSongs 42 rfl) (ea_at dt_X11_needSongs 43 rfl) (ea_at dt_X11_needSongs 44 rfl) (ea_at dt_X11_needSongs 45 rfl) (ea_at dt_X11_needSongs 46 rfl) rfl (by decide) rfl (by decide +kernel) ea_tw2 cl_X11_129 ini_2 ml_X11_133 rfl ⟨by decide, by decide, by decide, by decide, by decide, by decide⟩ (fun h => ⟨0, hR _ h⟩)
  · exact ev_vret (ea_at dt_X11_needSongs 47 rfl) rfl ⟨by decide, by decide⟩ (fun h => ⟨0, hR _ h⟩)
set_option maxHeartbeats 300000 in
theorem jn_X11_needSongs_16 (G : ea_G) {res : ea_O}  (p1 : Int32) (m1 : ea_M)  {Φ : ea_O → Prop} (hR : ∀ t : ea_O, Φ t → res = t) : ea_E G F_X11_needSongs res 16 [some (.ref 0), some (.int p1), none, none] [] m1 0 0 (f_X11_needSongs_j16 p1 m1) Φ := by
  unfold f_X11_needSongs_j16
  refine ev_iconst (ea_at dt_X11_needSongs 9 rfl) ic_0 ?_
  exact ev_drop (l' := [some (.ref 0), some (.int p1), none, none]) ⟨Or.inr rfl, Or.inr rfl, Or.inl rfl, Or.inl rfl, trivial⟩ (jn_X11_needSongs_17 G p1 0 m1  hR)
set_option maxHeartbeats 300000 in
theorem ok_X11_needSongs (G : ea_G) (p1 : Int32) (m : ea_M)  (zZ : ea_O) (hZ : f_X11_needSongs p1 m = some zZ) : ea_Met G yX11_needSongs F_X11_needSongs [.ref 0, .int p1] m zZ := by
  refine ea_met (F := F_X11_needSongs) (by decide +kernel) rfl rfl (Nat.le_of_ble_eq_true rfl) (by simp only [List.mem_cons, List.not_mem_nil, or_false]; intro v hv; rcases hv with rfl | rfl <;> rfl) ((?_ : ea_E G F_X11_needSongs zZ 0 [some (.ref 0), some (.int p1), none, none] [] m 0 0 (f_X11_needSongs p1 m) (fun t => t = zZ)) zZ hZ rfl)
  have hR : ∀ t : ea_O, t = zZ → zZ = t := fun t h => h.symm
  unfold f_X11_needSongs
  refine ev_iload_n (ea_at dt_X11_needSongs 0 rfl) rfl ?_
  refine ev_bipush (ea_at dt_X11_needSongs 1 rfl) bp_40 ?_
  refine ev_icmp_gt (tgt := 16) (ea_at dt_X11_needSongs 2 rfl) rfl (fun _ => ?_) (fun _ => ?_)
  · exact ev_drop (l' := [some (.ref 0), some (.int p1), none, none]) ⟨Or.inr rfl, Or.inr rfl, Or.inl rfl, Or.inl rfl, trivial⟩ (jn_X11_needSongs_16 G p1 m  hR)
  · refine ev_iload_n (ea_at dt_X11_needSongs 3 rfl) rfl ?_
    refine ev_iconst (ea_at dt_X11_needSongs 4 rfl) ic_2 ?_
    refine ev_irem (ea_at dt_X11_needSongs 5 rfl) (by decide) ?_
    refine ev_i (fun x11 => ?_)
    refine ev_if_ne (tgt := 16) (ea_at dt_X11_needSongs 6 rfl) rfl (fun _ => ?_) (fun _ => ?_)
    · refine ev_iconst (ea_at dt_X11_needSongs 7 rfl) ic_1 ?_
      refine ev_goto (tgt := 17) (ea_at dt_X11_needSongs 8 rfl) rfl ?_
      exact ev_drop (l' := [some (.ref 0), some (.int p1), none, none]) ⟨Or.inr rfl, Or.inr rfl, Or.inl rfl, Or.inl rfl, trivial⟩ (jn_X11_needSongs_17 G p1 1 m  hR)
    · exact ev_drop (l' := [some (.ref 0), some (.int p1), none, none]) ⟨Or.inr rfl, Or.inr rfl, Or.inl rfl, Or.inl rfl, trivial⟩ (jn_X11_needSongs_16 G p1 m  hR)
def F_X2_tunesOf : ea_F := (ea_rm 8 0 0, cX2_tunesOf, RX2, some .int, 4, [], 0, 0)
def D_X2_tunesOf : List (Nat × Instr × Nat) := [(0, .iconst 0, 1), (1, .istore_n 2, 1), (2, .iconst 0, 1), (3, .istore_n 3, 1), (4, .iload_n 3, 1), (5, .aload_n 0, 1), (6, .getfield 36, 3), (9, .if_icmp .ge 26, 3), (12, .iload_n 1, 1), (13, .iload_n 3, 1), (14, .ishr, 1), (15, .iconst 1, 1), (16, .iand, 1), (17, .ifCond .eq 12, 3), (20, .iload_n 2, 1), (21, .aload_n 0, 1), (22, .getfield 49, 3), (25, .iload_n 3, 1), (26, .iaload, 1), (27, .ior, 1), (28, .istore_n 2, 1), (29, .iinc 3 1, 3), (32, .goto (-28), 3), (35, .iload_n 2, 1), (36, .ireturn, 1)]
theorem dt_X2_tunesOf : ∀ q ∈ D_X2_tunesOf, decode cX2_tunesOf q.1 = .ok q.2 := by decide +kernel
theorem mv_X2_tunesOf : ea_MV yX2_tunesOf (F_X2_tunesOf) 1 := ⟨⟨List.mem_append_right _ (List.mem_of_getElem? (i := 2) (by decide +kernel)), List.mem_append_right _ (List.mem_of_getElem? (i := 1315) (by decide +kernel)), ⟨by decide, by decide⟩, by decide +kernel⟩, List.mem_append_right _ (List.mem_of_getElem? (i := 1313) (by decide +kernel)), List.mem_append_right _ (List.mem_of_getElem? (i := 1314) (by decide +kernel))⟩
def f_X2_tunesOf_j29 (a : Nat) (p1 : Int32) (x3 : Int32) (x4 : Int32) (m5 : ea_M) : Option ((Int32 × Int32 × ea_M) ⊕ (Int32 × ea_M)) :=
  some (.inl (x3, x4 + 1, m5))
def f_X2_tunesOf_s4 (a : Nat) (p1 : Int32)  (s4 : Int32 × Int32 × ea_M) : Option ((Int32 × Int32 × ea_M) ⊕ (Int32 × ea_M)) :=
  ea_bd (s4.2.2 a 8) fun x1 =>
  if x1 ≤ s4.2.1 then
  some (.inr (s4.1, s4.2.2))
  else
  ea_bd ((p1 >>> (s4.2.1 &&& 31)) &&& 1) fun x2 =>
  if x2 = 0 then
  f_X2_tunesOf_j29 a p1 s4.1 s4.2.1 s4.2.2
  else
  ea_g s4.2.1 6 (ea_bd (s4.2.2 (a + 4) (Int32.toNatClampNeg s4.2.1)) fun x6 =>
  ea_bd (s4.1 ||| x6) fun x7 =>
  f_X2_tunesOf_j29 a p1 x7 s4.2.1 s4.2.2)
def f_X2_tunesOf (a : Nat) (p1 : Int32) (m : ea_M) : Option (Int32 × ea_M) :=
  (ea_loop (f_X2_tunesOf_s4 a p1) ea_fuel (0, 0, m)).bind (fun x4s =>
  some (x4s.1, x4s.2))
set_option maxHeartbeats 300000 in
theorem jn_X2_tunesOf_29 (G : ea_G) {res : ea_O}  (a : Nat) (p1 : Int32) (x3 : Int32) (x4 : Int32) (m5 : ea_M) (ha : ea_isCourt a) {Φ : ((Int32 × Int32 × ea_M) ⊕ (Int32 × ea_M)) → Prop} (hC : ∀ s4 : Int32 × Int32 × ea_M, Φ (.inl s4) → ea_Ev G F_X2_tunesOf res 4 [some (.ref a), some (.int p1), some (.int s4.1), some (.int s4.2.1)] [] s4.2.2 0 0) (hX : ∀ x4s : Int32 × ea_M, Φ (.inr x4s) → ea_Ev G F_X2_tunesOf res 35 [none, none, some (.int x4s.1), none] [] x4s.2 0 0) : ea_E G F_X2_tunesOf res 29 [some (.ref a), some (.int p1), some (.int x3), some (.int x4)] [] m5 0 0 (f_X2_tunesOf_j29 a p1 x3 x4 m5) Φ := by
  unfold f_X2_tunesOf_j29
  refine ev_iinc (ls' := [some (.ref a), some (.int p1), some (.int x3), some (.int (x4 + 1))]) (ea_at dt_X2_tunesOf 21 rfl) rfl (congrArg (fun z => _ + z) ic_1) (ea_lt rfl) rfl ?_
  refine ev_goto (tgt := 4) (ea_at dt_X2_tunesOf 22 rfl) rfl ?_
  exact ev_leaf (fun h => ea_drop (l' := [some (.ref a), some (.int p1), some (.int x3), some (.int (x4 + 1))]) ⟨Or.inr rfl, Or.inr rfl, Or.inr rfl, Or.inr rfl, trivial⟩ (hC (x3, x4 + 1, m5) h))
set_option maxHeartbeats 300000 in
theorem lp_X2_tunesOf_4 (G : ea_G) {res : ea_O}  (a : Nat) (p1 : Int32) (ha : ea_isCourt a) {Ψ : (Int32 × ea_M) → Prop} (hX : ∀ x4s : Int32 × ea_M, Ψ x4s → ea_Ev G F_X2_tunesOf res 35 [none, none, some (.int x4s.1), none] [] x4s.2 0 0) : ∀ (f : Nat) (s4 : Int32 × Int32 × ea_M), ea_E G F_X2_tunesOf res 4 [some (.ref a), some (.int p1), some (.int s4.1), some (.int s4.2.1)] [] s4.2.2 0 0 (ea_loop (f_X2_tunesOf_s4 a p1) f s4) Ψ := by
  refine ev_loop (G := G) (F := F_X2_tunesOf) (res := res) (pc := 4) (st := []) (k := 0) (n := 0) (step := (f_X2_tunesOf_s4 a p1)) (Ψ := Ψ) (fun (s4 : Int32 × Int32 × ea_M) => [some (.ref a), some (.int p1), some (.int s4.1), some (.int s4.2.1)]) (fun (s4 : Int32 × Int32 × ea_M) => s4.2.2) (fun s4 => ?_)
  have hC : ∀ s4 : Int32 × Int32 × ea_M, (Sum.elim (fun s4 : Int32 × Int32 × ea_M => ea_Ev G F_X2_tunesOf res 4 [some (.ref a), some (.int p1), some (.int s4.1), some (.int s4.2.1)] [] s4.2.2 0 0) Ψ) (.inl s4) → ea_Ev G F_X2_tunesOf res 4 [some (.ref a), some (.int p1), some (.int s4.1), some (.int s4.2.1)] [] s4.2.2 0 0 := fun _ h => h
  have hX : ∀ x4s : Int32 × ea_M, (Sum.elim (fun s4 : Int32 × Int32 × ea_M => ea_Ev G F_X2_tunesOf res 4 [some (.ref a), some (.int p1), some (.int s4.1), some (.int s4.2.1)] [] s4.2.2 0 0) Ψ) (.inr x4s) → ea_Ev G F_X2_tunesOf res 35 [none, none, some (.int x4s.1), none] [] x4s.2 0 0 := hX
  unfold f_X2_tunesOf_s4
  refine ev_iload_n (ea_at dt_X2_tunesOf 4 rfl) rfl ?_
  refine ev_aload_n (ea_at dt_X2_tunesOf 5 rfl) rfl ?_
  refine ev_getI (ea_at dt_X2_tunesOf 6 rfl) fl_X2_36 ha.1 rfl ?_
  refine ev_i (fun x1 => ?_)
  refine ev_icmp_ge (tgt := 35) (ea_at dt_X2_tunesOf 7 rfl) rfl (fun _ => ?_) (fun _ => ?_)
  · exact ev_leaf (fun h => ea_drop (l' := [none, none, some (.int s4.1), none]) ⟨Or.inl rfl, Or.inl rfl, Or.inr rfl, Or.inl rfl, trivial⟩ (hX (s4.1, s4.2.2) h))
  · refine ev_iload_n (ea_at dt_X2_tunesOf 8 rfl) rfl ?_
    refine ev_iload_n (ea_at dt_X2_tunesOf 9 rfl) rfl ?_
    refine ev_ishr (ea_at dt_X2_tunesOf 10 rfl) ?_
    refine ev_iconst (ea_at dt_X2_tunesOf 11 rfl) ic_1 ?_
    refine ev_iand (ea_at dt_X2_tunesOf 12 rfl) ?_
    refine ev_i (fun x2 => ?_)
    refine ev_if_eq (tgt := 29) (ea_at dt_X2_tunesOf 13 rfl) rfl (fun _ => ?_) (fun _ => ?_)
    · exact ev_drop (l' := [some (.ref a), some (.int p1), some (.int s4.1), some (.int s4.2.1)]) ⟨Or.inr rfl, Or.inr rfl, Or.inr rfl, Or.inr rfl, trivial⟩ (jn_X2_tunesOf_29 G a p1 s4.1 s4.2.1 s4.2.2 ha hC hX)
    · refine ev_iload_n (ea_at dt_X2_tunesOf 14 rfl) rfl ?_
      refine ev_aload_n (ea_at dt_X2_tunesOf 15 rfl) rfl ?_
      refine ev_getR (ea_at dt_X2_tunesOf 16 rfl) fl_X2_49 ha.1 rfl ?_
      refine ev_iload_n (ea_at dt_X2_tunesOf 17 rfl) rfl ?_
      refine ev_iaload (ea_at dt_X2_tunesOf 18 rfl) ha.2.2.2.2.1 (by decide) ?_
      refine ev_i (fun x6 => ?_)
      refine ev_ior (ea_at dt_X2_tunesOf 19 rfl) ?_
      refine ev_i (fun x7 => ?_)
      refine ev_istore_n (ls' := [some (.ref a), some (.int p1), some (.int x7), some (.int s4.2.1)]) (ea_at dt_X2_tunesOf 20 rfl) (ea_lt rfl) rfl ?_
      exact ev_drop (l' := [some (.ref a), some (.int p1), some (.int x7), some (.int s4.2.1)]) ⟨Or.inr rfl, Or.inr rfl, Or.inr rfl, Or.inr rfl, trivial⟩ (jn_X2_tunesOf_29 G a p1 x7 s4.2.1 s4.2.2 ha hC hX)
set_option maxHeartbeats 300000 in
theorem ok_X2_tunesOf (G : ea_G) (a : Nat) (p1 : Int32) (m : ea_M) (ha : ea_isCourt a) (rZ : Int32) (mZ : ea_M) (hZ : f_X2_tunesOf a p1 m = some (rZ, mZ)) : ea_Met G yX2_tunesOf F_X2_tunesOf [.ref a, .int p1] m (0, rZ, mZ) := by
  refine ea_met (F := F_X2_tunesOf) (by decide +kernel) rfl rfl (Nat.le_of_ble_eq_true rfl) (by simp only [List.mem_cons, List.not_mem_nil, or_false]; intro v hv; rcases hv with rfl | rfl <;> rfl) ((?_ : ea_E G F_X2_tunesOf (0, rZ, mZ) 0 [some (.ref a), some (.int p1), none, none] [] m 0 0 (f_X2_tunesOf a p1 m) (fun t => t = (rZ, mZ))) (rZ, mZ) hZ rfl)
  have hR : ∀ t : Int32 × ea_M, t = (rZ, mZ) → ((0, rZ, mZ) : ea_O) = (0, t) := fun t h => by rw [h]
  unfold f_X2_tunesOf
  refine ev_iconst (ea_at dt_X2_tunesOf 0 rfl) ic_0 ?_
  refine ev_istore_n (ls' := [some (.ref a), some (.int p1), some (.int 0), none]) (ea_at dt_X2_tunesOf 1 rfl) (ea_lt rfl) rfl ?_
  refine ev_iconst (ea_at dt_X2_tunesOf 2 rfl) ic_0 ?_
  refine ev_istore_n (ls' := [some (.ref a), some (.int p1), some (.int 0), some (.int 0)]) (ea_at dt_X2_tunesOf 3 rfl) (ea_lt rfl) rfl ?_
  refine ev_drop (l' := [some (.ref a), some (.int p1), some (.int 0), some (.int 0)]) ⟨Or.inr rfl, Or.inr rfl, Or.inr rfl, Or.inr rfl, trivial⟩ ?_
  refine ev_bind (lp_X2_tunesOf_4 G a p1 ha  (fun x4s h => ?_) ea_fuel (0, 0, m))
  obtain ⟨t1, e1, q1⟩ := h
  refine (?_ : ea_E G F_X2_tunesOf (0, rZ, mZ) 35 [none, none, some (.int x4s.1), none] [] x4s.2 0 0 _ (fun t => t = (rZ, mZ))) t1 e1 q1
  refine ev_iload_n (ea_at dt_X2_tunesOf 23 rfl) rfl ?_
  exact ev_iret (ea_at dt_X2_tunesOf 24 rfl) rfl ⟨by decide, by decide⟩ (fun h => hR _ h)
def F_X11_canHaveSung : ea_F := (ea_rm 9 0 0, cX11_canHaveSung, RX11, some .boolean, 5, [], 0, 0)
def D_X11_canHaveSung : List (Nat × Instr × Nat) := [(0, .aload_n 0, 1), (1, .getfield 23, 3), (4, .iload_n 1, 1), (5, .invokevirtual 409, 3), (8, .istore_n 3, 1), (9, .iconst 0, 1), (10, .istore 4, 2), (12, .iload 4, 2), (14, .iconst 1, 1), (15, .iadd, 1), (16, .iload_n 2, 1), (17, .if_icmp .ge 44, 3), (20, .iload 4, 2), (22, .iconst 1, 1), (23, .iadd, 1), (24, .sipush 400, 3), (27, .if_icmp .ge 34, 3), (30, .iload_n 3, 1), (31, .aload_n 0, 1), (32, .getfield 9, 3), (35, .iload 4, 2), (37, .iaload, 1), (38, .ishr, 1), (39, .iconst 1, 1), (40, .iand, 1), (41, .aload_n 0, 1), (42, .getfield 9, 3), (45, .iload 4, 2), (47, .iconst 1, 1), (48, .iadd, 1), (49, .iaload, 1), (50, .if_icmp .eq 5, 3), (53, .iconst 0, 1), (54, .ireturn, 1), (55, .iinc 4 2, 3), (58, .goto (-46), 3), (61, .iconst 1, 1), (62, .ireturn, 1)]
theorem dt_X11_canHaveSung : ∀ q ∈ D_X11_canHaveSung, decode cX11_canHaveSung q.1 = .ok q.2 := by decide +kernel
theorem mv_X11_canHaveSung : ea_MV yX11_canHaveSung (F_X11_canHaveSung) 2 := ⟨⟨List.mem_append_right _ (List.mem_of_getElem? (i := 1) (by decide +kernel)), List.mem_append_right _ (List.mem_of_getElem? (i := 1311) (by decide +kernel)), ⟨by decide, by decide⟩, by decide +kernel⟩, List.mem_append_right _ (List.mem_of_getElem? (i := 1310) (by decide +kernel)), List.mem_append_left _ (List.mem_of_getElem? (i := 38) (by decide +kernel))⟩
def f_X11_canHaveSung_s12 (p2 : Int32) (r2 : Int32)  (s12 : Int32 × ea_M) : Option ((Int32 × ea_M) ⊕ ((Int32 × ea_M) ⊕ (ea_M))) :=
  if p2 ≤ (s12.1 + 1) then
  some (.inr (.inr s12.2))
  else
  if 400 ≤ (s12.1 + 1) then
  some (.inr (.inr s12.2))
  else
  ea_g s12.1 400 (ea_bd (s12.2 1 (Int32.toNatClampNeg s12.1)) fun x3 =>
  ea_bd ((r2 >>> (x3 &&& 31)) &&& 1) fun x4 =>
  ea_g (s12.1 + 1) 400 (ea_bd (s12.2 1 (Int32.toNatClampNeg (s12.1 + 1))) fun x5 =>
  if x4 = x5 then
  some (.inl (s12.1 + 2, s12.2))
  else
  some (.inr (.inl (0, s12.2)))))
def f_X11_canHaveSung (p1 : Int32) (p2 : Int32) (m : ea_M) : Option (Int32 × ea_M) :=
  ea_cl (f_X2_tunesOf 2 p1 m) fun r2 m1 =>
  ea_sl (ea_loop (f_X11_canHaveSung_s12 p2 r2) ea_fuel (0, m1)) (fun t => some t) (fun x12s =>
  some (1, x12s))
set_option maxHeartbeats 300000 in
theorem lp_X11_canHaveSung_12 (G : ea_G) {res : ea_O}  (p2 : Int32) (r2 : Int32)  {Ψ : ((Int32 × ea_M) ⊕ (ea_M)) → Prop} (hR : ∀ t : Int32 × ea_M, Ψ (.inl t) → res = (0, t)) (hX : ∀ x12s : ea_M, Ψ (.inr x12s) → ea_Ev G F_X11_canHaveSung res 61 [none, none, none, none, none] [] x12s 0 0) : ∀ (f : Nat) (s12 : Int32 × ea_M), ea_E G F_X11_canHaveSung res 12 [some (.ref 0), none, some (.int p2), some (.int r2), some (.int s12.1)] [] s12.2 0 0 (ea_loop (f_X11_canHaveSung_s12 p2 r2) f s12) Ψ := by
  refine ev_loop (G := G) (F := F_X11_canHaveSung) (res := res) (pc := 12) (st := []) (k := 0) (n := 0) (step := (f_X11_canHaveSung_s12 p2 r2)) (Ψ := Ψ) (fun (s12 : Int32 × ea_M) => [some (.ref 0), none, some (.int p2), some (.int r2), some (.int s12.1)]) (fun (s12 : Int32 × ea_M) => s12.2) (fun s12 => ?_)
  have hC : ∀ s12 : Int32 × ea_M, (Sum.elim (fun s12 : Int32 × ea_M => ea_Ev G F_X11_canHaveSung res 12 [some (.ref 0), none, some (.int p2), some (.int r2), some (.int s12.1)] [] s12.2 0 0) Ψ) (.inl s12) → ea_Ev G F_X11_canHaveSung res 12 [some (.ref 0), none, some (.int p2), some (.int r2), some (.int s12.1)] [] s12.2 0 0 := fun _ h => h
  have hR : ∀ t : Int32 × ea_M, (Sum.elim (fun s12 : Int32 × ea_M => ea_Ev G F_X11_canHaveSung res 12 [some (.ref 0), none, some (.int p2), some (.int r2), some (.int s12.1)] [] s12.2 0 0) Ψ) (.inr (.inl t)) → res = (0, t) := hR
  have hX : ∀ x12s : ea_M, (Sum.elim (fun s12 : Int32 × ea_M => ea_Ev G F_X11_canHaveSung res 12 [some (.ref 0), none, some (.int p2), some (.int r2), some (.int s12.1)] [] s12.2 0 0) Ψ) (.inr (.inr x12s)) → ea_Ev G F_X11_canHaveSung res 61 [none, none, none, none, none] [] x12s 0 0 := hX
  unfold f_X11_canHaveSung_s12
  refine ev_iload (ea_at dt_X11_canHaveSung 7 rfl) rfl ?_
  refine ev_iconst (ea_at dt_X11_canHaveSung 8 rfl) ic_1 ?_
  refine ev_iadd (ea_at dt_X11_canHaveSung 9 rfl) ?_
  refine ev_iload_n (ea_at dt_X11_canHaveSung 10 rfl) rfl ?_
  refine ev_icmp_ge (tgt := 61) (ea_at dt_X11_canHaveSung 11 rfl) rfl (fun _ => ?_) (fun _ => ?_)
  · exact ev_leaf (fun h => ea_drop (l' := [none, none, none, none, none]) ⟨Or.inl rfl, Or.inl rfl, Or.inl rfl, Or.inl rfl, Or.inl rfl, trivial⟩ (hX s12.2 h))
  · refine ev_iload (ea_at dt_X11_canHaveSung 12 rfl) rfl ?_
    refine ev_iconst (ea_at dt_X11_canHaveSung 13 rfl) ic_1 ?_
    refine ev_iadd (ea_at dt_X11_canHaveSung 14 rfl) ?_
    refine ev_sipush (ea_at dt_X11_canHaveSung 15 rfl) sp_400 ?_
    refine ev_icmp_ge (tgt := 61) (ea_at dt_X11_canHaveSung 16 rfl) rfl (fun _ => ?_) (fun _ => ?_)
    · exact ev_leaf (fun h => ea_drop (l' := [none, none, none, none, none]) ⟨Or.inl rfl, Or.inl rfl, Or.inl rfl, Or.inl rfl, Or.inl rfl, trivial⟩ (hX s12.2 h))
    · refine ev_iload_n (ea_at dt_X11_canHaveSung 17 rfl) rfl ?_
      refine ev_aload_n (ea_at dt_X11_canHaveSung 18 rfl) rfl ?_
      refine ev_getR (ea_at dt_X11_canHaveSung 19 rfl) fl_X11_9 sh_0 rfl ?_
      refine ev_iload (ea_at dt_X11_canHaveSung 20 rfl) rfl ?_
      refine ev_iaload (ea_at dt_X11_canHaveSung 21 rfl) sh_1 (by decide) ?_
      refine ev_i (fun x3 => ?_)
      refine ev_ishr (ea_at dt_X11_canHaveSung 22 rfl) ?_
      refine ev_iconst (ea_at dt_X11_canHaveSung 23 rfl) ic_1 ?_
      refine ev_iand (ea_at dt_X11_canHaveSung 24 rfl) ?_
      refine ev_i (fun x4 => ?_)
      refine ev_aload_n (ea_at dt_X11_canHaveSung 25 rfl) rfl ?_
      refine ev_getR (ea_at dt_X11_canHaveSung 26 rfl) fl_X11_9 sh_0 rfl ?_
      refine ev_iload (ea_at dt_X11_canHaveSung 27 rfl) rfl ?_
      refine ev_iconst (ea_at dt_X11_canHaveSung 28 rfl) ic_1 ?_
      refine ev_iadd (ea_at dt_X11_canHaveSung 29 rfl) ?_
      refine ev_iaload (ea_at dt_X11_canHaveSung 30 rfl) sh_1 (by decide) ?_
      refine ev_i (fun x5 => ?_)
      refine ev_icmp_eq (tgt := 55) (ea_at dt_X11_canHaveSung 31 rfl) rfl (fun _ => ?_) (fun _ => ?_)
      · refine ev_iinc (ls' := [some (.ref 0), none, some (.int p2), some (.int r2), some (.int (s12.1 + 2))]) (ea_at dt_X11_canHaveSung 34 rfl) rfl (congrArg (fun z => _ + z) ic_2) (ea_lt rfl) rfl ?_
        refine ev_goto (tgt := 12) (ea_at dt_X11_canHaveSung 35 rfl) rfl ?_
        exact ev_leaf (fun h => ea_drop (l' := [some (.ref 0), none, some (.int p2), some (.int r2), some (.int (s12.1 + 2))]) ⟨Or.inr rfl, Or.inl rfl, Or.inr rfl, Or.inr rfl, Or.inr rfl, trivial⟩ (hC (s12.1 + 2, s12.2) h))
      · refine ev_iconst (ea_at dt_X11_canHaveSung 32 rfl) ic_0 ?_
        exact ev_zret (by decide) (ea_at dt_X11_canHaveSung 33 rfl) rfl ⟨by decide, by decide⟩ (fun h => hR _ h)
set_option maxHeartbeats 300000 in
theorem ok_X11_canHaveSung (G : ea_G) (p1 : Int32) (p2 : Int32) (m : ea_M)  (rZ : Int32) (mZ : ea_M) (hZ : f_X11_canHaveSung p1 p2 m = some (rZ, mZ)) : ea_Met G yX11_canHaveSung F_X11_canHaveSung [.ref 0, .int p1, .int p2] m (0, rZ, mZ) := by
  refine ea_met (F := F_X11_canHaveSung) (by decide +kernel) rfl rfl (Nat.le_of_ble_eq_true rfl) (by simp only [List.mem_cons, List.not_mem_nil, or_false]; intro v hv; rcases hv with rfl | rfl | rfl <;> rfl) ((?_ : ea_E G F_X11_canHaveSung (0, rZ, mZ) 0 [some (.ref 0), some (.int p1), some (.int p2), none, none] [] m 0 0 (f_X11_canHaveSung p1 p2 m) (fun t => t = (rZ, mZ))) (rZ, mZ) hZ rfl)
  have hR : ∀ t : Int32 × ea_M, t = (rZ, mZ) → ((0, rZ, mZ) : ea_O) = (0, t) := fun t h => by rw [h]
  unfold f_X11_canHaveSung
  refine ev_aload_n (ea_at dt_X11_canHaveSung 0 rfl) rfl ?_
  refine ev_getR (ea_at dt_X11_canHaveSung 1 rfl) fl_X11_23 sh_0 rfl ?_
  refine ev_iload_n (ea_at dt_X11_canHaveSung 2 rfl) rfl ?_
  refine ev_clI (F1 := F_X2_tunesOf) (fun rY mY hY => ea_runV (As := [.int p1]) (ea_at dt_X11_canHaveSung 3 rfl) ml_X11_409 mv_X2_tunesOf (ok_X2_tunesOf G 2 p1 m is_Court_2 rY mY hY) sh_2 rfl rfl rfl (Nat.le_of_ble_eq_true rfl) rfl) rfl (fun r2 m1 => ?_)
  refine ev_istore_n (ls' := [some (.ref 0), some (.int p1), some (.int p2), some (.int r2), none]) (ea_at dt_X11_canHaveSung 4 rfl) (ea_lt rfl) rfl ?_
  refine ev_iconst (ea_at dt_X11_canHaveSung 5 rfl) ic_0 ?_
  refine ev_istore (ls' := [some (.ref 0), some (.int p1), some (.int p2), some (.int r2), some (.int 0)]) (ea_at dt_X11_canHaveSung 6 rfl) (ea_lt rfl) rfl ?_
  refine ev_drop (l' := [some (.ref 0), none, some (.int p2), some (.int r2), some (.int 0)]) ⟨Or.inr rfl, Or.inl rfl, Or.inr rfl, Or.inr rfl, Or.inr rfl, trivial⟩ ?_
  refine ev_sl (lp_X11_canHaveSung_12 G p2 r2  (fun t h => by obtain ⟨t1, e1, q1⟩ := h; cases e1; exact hR t q1) (fun x12s h => ?_) ea_fuel (0, m1))
  obtain ⟨t1, e1, q1⟩ := h
  refine (?_ : ea_E G F_X11_canHaveSung (0, rZ, mZ) 61 [none, none, none, none, none] [] x12s 0 0 _ (fun t => t = (rZ, mZ))) t1 e1 q1
  refine ev_iconst (ea_at dt_X11_canHaveSung 36 rfl) ic_1 ?_
  exact ev_zret (by decide) (ea_at dt_X11_canHaveSung 37 rfl) rfl ⟨by decide, by decide⟩ (fun h => hR _ h)
