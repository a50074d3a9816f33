def F_X11_songs : ea_F := (ea_rm 10 1 6, cX11_songs, RX11, some .int, 6, [], 1, 6)
def D_X11_songs : List (Nat × Instr × Nat) := [(0, .aload_n 0, 1), (1, .invokevirtual 117, 3), (4, .istore_n 2, 1), (5, .aload_n 0, 1), (6, .iload_n 2, 1), (7, .invokevirtual 396, 3), (10, .iconst 0, 1), (11, .istore_n 3, 1), (12, .iconst 1, 1), (13, .aload_n 0, 1), (14, .getfield 23, 3), (17, .getfield 233, 3), (20, .ishl, 1), (21, .iconst 1, 1), (22, .isub, 1), (23, .istore 4, 2), (25, .iconst 0, 1), (26, .istore 5, 2), (28, .iload 5, 2), (30, .iconst 1, 1), (31, .aload_n 0, 1), (32, .getfield 23, 3), (35, .getfield 233, 3), (38, .ishl, 1), (39, .if_icmp .ge 29, 3), (42, .aload_n 0, 1), (43, .iload 5, 2), (45, .iload_n 2, 1), (46, .invokevirtual 399, 3), (49, .ifCond .eq 13, 3), (52, .iinc 3 1, 3), (55, .iload 4, 2), (57, .iload 5, 2), (59, .iand, 1), (60, .istore 4, 2), (62, .iinc 5 1, 3), (65, .goto (-37), 3), (68, .iload_n 1, 1), (69, .ifCond .ne 5, 3), (72, .iload_n 3, 1), (73, .ireturn, 1), (74, .iload_n 3, 1), (75, .ifCond .ne 7, 3), (78, .iconst 0, 1), (79, .goto 5, 3), (82, .iload 4, 2), (84, .ireturn, 1)]
theorem dt_X11_songs : ∀ q ∈ D_X11_songs, decode cX11_songs q.1 = .ok q.2 := by decide +kernel
theorem mv_X11_songs : ea_MV yX11_songs (F_X11_songs) 1 := ⟨⟨List.mem_append_right _ (List.mem_of_getElem? (i := 1) (by decide +kernel)), List.mem_append_right _ (List.mem_of_getElem? (i := 1302) (by decide +kernel)), ⟨by decide, by decide⟩, by decide +kernel⟩, List.mem_append_right _ (List.mem_of_getElem? (i := 1300) (by decide +kernel)), List.mem_append_right _ (List.mem_of_getElem? (i := 1301) (by decide +kernel))⟩
def f_X11_songs_j62 (p1 : Int32) (r2 : Int32) (x10 : Int32) (x11 : Int32) (x12 : Int32) (m13 : ea_M) : Option ((Int32 × Int32 × Int32 × ea_M) ⊕ (Int32 × Int32 × ea_M)) :=
  some (.inl (x10, x11, x12 + 1, m13))
def f_X11_songs_s28 (p1 : Int32) (r2 : Int32)  (s28 : Int32 × Int32 × Int32 × ea_M) : Option ((Int32 × Int32 × Int32 × ea_M) ⊕ (Int32 × Int32 × ea_M)) :=
  ea_bd (s28.2.2.2 2 8) fun x7 =>
  if (1 <<< (x7 &&& 31)) ≤ s28.2.2.1 then
  some (.inr (s28.1, s28.2.1, s28.2.2.2))
  else
  ea_cl (f_X11_canHaveSung s28.2.2.1 r2 s28.2.2.2) fun r9 m8 =>
  if r9 = 0 then
  f_X11_songs_j62 p1 r2 s28.1 s28.2.1 s28.2.2.1 m8
  else
  ea_bd (s28.2.1 &&& s28.2.2.1) fun x14 =>
  f_X11_songs_j62 p1 r2 (s28.1 + 1) x14 s28.2.2.1 m8
def f_X11_songs (p1 : Int32) (m : ea_M) : Option (ea_O) :=
  ea_cl (f_X11_useTapeUp m) fun r2 m1 =>
  ea_cx (f_X11_needSongs r2 m1) (fun r4 m3 =>
  ea_bd (m3 2 8) fun x5 =>
  ea_bd ((1 <<< (x5 &&& 31)) - 1) fun x6 =>
  (ea_loop (f_X11_songs_s28 p1 r2) ea_fuel (0, x6, 0, m3)).bind (fun x28s =>
  if p1 = 0 then
  some (0, x28s.1, x28s.2.2)
  else
  if x28s.1 = 0 then
  some (0, 0, x28s.2.2)
  else
  some (0, x28s.2.1, x28s.2.2))) (fun kx mx => some (kx, 0, mx))
set_option maxHeartbeats 300000 in
theorem jn_X11_songs_62 (G : ea_G) {res : ea_O}  (p1 : Int32) (r2 : Int32) (x10 : Int32) (x11 : Int32) (x12 : Int32) (m13 : ea_M)  {Φ : ((Int32 × Int32 × Int32 × ea_M) ⊕ (Int32 × Int32 × ea_M)) → Prop} (hC : ∀ s28 : Int32 × Int32 × Int32 × ea_M, Φ (.inl s28) → ea_Ev G F_X11_songs res 28 [some (.ref 0), some (.int p1), some (.int r2), some (.int s28.1), some (.int s28.2.1), some (.int s28.2.2.1)] [] s28.2.2.2 1 6) (hX : ∀ x28s : Int32 × Int32 × ea_M, Φ (.inr x28s) → ea_Ev G F_X11_songs res 68 [none, some (.int p1), none, some (.int x28s.1), some (.int x28s.2.1), none] [] x28s.2.2 1 6) : ea_E G F_X11_songs res 62 [some (.ref 0), some (.int p1), some (.int r2), some (.int x10), some (.int x11), some (.int x12)] [] m13 1 6 (f_X11_songs_j62 p1 r2 x10 x11 x12 m13) Φ := by
  unfold f_X11_songs_j62
  refine ev_iinc (ls' := [some (.ref 0), some (.int p1), some (.int r2), some (.int x10), some (.int x11), some (.int (x12 + 1))]) (ea_at dt_X11_songs 35 rfl) rfl (congrArg (fun z => _ + z) ic_1) (ea_lt rfl) rfl ?_
  refine ev_goto (tgt := 28) (ea_at dt_X11_songs 36 rfl) rfl ?_
  exact ev_leaf (fun h => ea_drop (l' := [some (.ref 0), some (.int p1), some (.int r2), some (.int x10), some (.int x11), some (.int (x12 + 1))]) ⟨Or.inr rfl, Or.inr rfl, Or.inr rfl, Or.inr rfl, Or.inr rfl, Or.inr rfl, trivial⟩ (hC (x10, x11, x12 + 1, m13) h))
set_option maxHeartbeats 300000 in
theorem lp_X11_songs_28 (G : ea_G) {res : ea_O}  (p1 : Int32) (r2 : Int32)  {Ψ : (Int32 × Int32 × ea_M) → Prop} (hX : ∀ x28s : Int32 × Int32 × ea_M, Ψ x28s → ea_Ev G F_X11_songs res 68 [none, some (.int p1), none, some (.int x28s.1), some (.int x28s.2.1), none] [] x28s.2.2 1 6) : ∀ (f : Nat) (s28 : Int32 × Int32 × Int32 × ea_M), ea_E G F_X11_songs res 28 [some (.ref 0), some (.int p1), some (.int r2), some (.int s28.1), some (.int s28.2.1), some (.int s28.2.2.1)] [] s28.2.2.2 1 6 (ea_loop (f_X11_songs_s28 p1 r2) f s28) Ψ := by
  refine ev_loop (G := G) (F := F_X11_songs) (res := res) (pc := 28) (st := []) (k := 1) (n := 6) (step := (f_X11_songs_s28 p1 r2)) (Ψ := Ψ) (fun (s28 : Int32 × Int32 × Int32 × ea_M) => [some (.ref 0), some (.int p1), some (.int r2), some (.int s28.1), some (.int s28.2.1), some (.int s28.2.2.1)]) (fun (s28 : Int32 × Int32 × Int32 × ea_M) => s28.2.2.2) (fun s28 => ?_)
  have hC : ∀ s28 : Int32 × Int32 × Int32 × ea_M, (Sum.elim (fun s28 : Int32 × Int32 × Int32 × ea_M => ea_Ev G F_X11_songs res 28 [some (.ref 0), some (.int p1), some (.int r2), some (.int s28.1), some (.int s28.2.1), some (.int s28.2.2.1)] [] s28.2.2.2 1 6) Ψ) (.inl s28) → ea_Ev G F_X11_songs res 28 [some (.ref 0), some (.int p1), some (.int r2), some (.int s28.1), some (.int s28.2.1), some (.int s28.2.2.1)] [] s28.2.2.2 1 6 := fun _ h => h
  have hX : ∀ x28s : Int32 × Int32 × ea_M, (Sum.elim (fun s28 : Int32 × Int32 × Int32 × ea_M => ea_Ev G F_X11_songs res 28 [some (.ref 0), some (.int p1), some (.int r2), some (.int s28.1), some (.int s28.2.1), some (.int s28.2.2.1)] [] s28.2.2.2 1 6) Ψ) (.inr x28s) → ea_Ev G F_X11_songs res 68 [none, some (.int p1), none, some (.int x28s.1), some (.int x28s.2.1), none] [] x28s.2.2 1 6 := hX
  unfold f_X11_songs_s28
  refine ev_iload (ea_at dt_X11_songs 18 rfl) rfl ?_
  refine ev_iconst (ea_at dt_X11_songs 19 rfl) ic_1 ?_
  refine ev_aload_n (ea_at dt_X11_songs 20 rfl) rfl ?_
  refine ev_getR (ea_at dt_X11_songs 21 rfl) fl_X11_23 sh_0 rfl ?_
  refine ev_getI (ea_at dt_X11_songs 22 rfl) fl_X11_233 sh_2 rfl ?_
  refine ev_i (fun x7 => ?_)
  refine ev_ishl (ea_at dt_X11_songs 23 rfl) ?_
  refine ev_icmp_ge (tgt := 68) (ea_at dt_X11_songs 24 rfl) rfl (fun _ => ?_) (fun _ => ?_)
  · exact ev_leaf (fun h => ea_drop (l' := [none, some (.int p1), none, some (.int s28.1), some (.int s28.2.1), none]) ⟨Or.inl rfl, Or.inr rfl, Or.inl rfl, Or.inr rfl, Or.inr rfl, Or.inl rfl, trivial⟩ (hX (s28.1, s28.2.1, s28.2.2.2) h))
  · refine ev_aload_n (ea_at dt_X11_songs 25 rfl) rfl ?_
    refine ev_iload (ea_at dt_X11_songs 26 rfl) rfl ?_
    refine ev_iload_n (ea_at dt_X11_songs 27 rfl) rfl ?_
    refine ev_clI (F1 := F_X11_canHaveSung) (fun rY mY hY => ea_runV (As := [.int s28.2.2.1, .int r2]) (ea_at dt_X11_songs 28 rfl) ml_X11_399 mv_X11_canHaveSung (ok_X11_canHaveSung G s28.2.2.1 r2 s28.2.2.2  rY mY hY) sh_0 rfl rfl rfl (Nat.le_of_ble_eq_true rfl) rfl) rfl (fun r9 m8 => ?_)
    refine ev_if_eq (tgt := 62) (ea_at dt_X11_songs 29 rfl) rfl (fun _ => ?_) (fun _ => ?_)
    · exact ev_drop (l' := [some (.ref 0), some (.int p1), some (.int r2), some (.int s28.1), some (.int s28.2.1), some (.int s28.2.2.1)]) ⟨Or.inr rfl, Or.inr rfl, Or.inr rfl, Or.inr rfl, Or.inr rfl, Or.inr rfl, trivial⟩ (jn_X11_songs_62 G p1 r2 s28.1 s28.2.1 s28.2.2.1 m8  hC hX)
    · refine ev_iinc (ls' := [some (.ref 0), some (.int p1), some (.int r2), some (.int (s28.1 + 1)), some (.int s28.2.1), some (.int s28.2.2.1)]) (ea_at dt_X11_songs 30 rfl) rfl (congrArg (fun z => _ + z) ic_1) (ea_lt rfl) rfl ?_
      refine ev_iload (ea_at dt_X11_songs 31 rfl) rfl ?_
      refine ev_iload (ea_at dt_X11_songs 32 rfl) rfl ?_
      refine ev_iand (ea_at dt_X11_songs 33 rfl) ?_
      refine ev_i (fun x14 => ?_)
      refine ev_istore (ls' := [some (.ref 0), some (.int p1), some (.int r2), some (.int (s28.1 + 1)), some (.int x14), some (.int s28.2.2.1)]) (ea_at dt_X11_songs 34 rfl) (ea_lt rfl) rfl ?_
      exact ev_drop (l' := [some (.ref 0), some (.int p1), some (.int r2), some (.int (s28.1 + 1)), some (.int x14), some (.int s28.2.2.1)]) ⟨Or.inr rfl, Or.inr rfl, Or.inr rfl, Or.inr rfl, Or.inr rfl, Or.inr rfl, trivial⟩ (jn_X11_songs_62 G p1 r2 (s28.1 + 1) x14 s28.2.2.1 m8  hC hX)
set_option maxHeartbeats 300000 in
theorem ok_X11_songs (G : ea_G) (p1 : Int32) (m : ea_M)  (zZ : ea_O) (hZ : f_X11_songs p1 m = some zZ) : ea_Met G yX11_songs F_X11_songs [.ref 0, .int p1] m zZ := by
  refine ea_met (F := F_X11_songs) (by decide +kernel) rfl rfl (Nat.le_of_ble_eq_true rfl) (by simp only [List.mem_cons, List.not_mem_nil, or_false]; intro v hv; rcases hv with rfl | rfl <;> rfl) ((?_ : ea_E G F_X11_songs zZ 0 [some (.ref 0), some (.int p1), none, none, none, none] [] m 0 0 (f_X11_songs p1 m) (fun t => t = zZ)) zZ hZ rfl)
  have hR : ∀ t : ea_O, t = zZ → zZ = t := fun t h => h.symm
  unfold f_X11_songs
  refine ev_aload_n (ea_at dt_X11_songs 0 rfl) rfl ?_
  refine ev_clI (F1 := F_X11_useTapeUp) (fun rY mY hY => ea_runV (As := []) (ea_at dt_X11_songs 1 rfl) ml_X11_117 mv_X11_useTapeUp (ok_X11_useTapeUp G m  rY mY hY) sh_0 rfl rfl rfl (Nat.le_of_ble_eq_true rfl) rfl) rfl (fun r2 m1 => ?_)
  refine ev_istore_n (ls' := [some (.ref 0), some (.int p1), some (.int r2), none, none, none]) (ea_at dt_X11_songs 2 rfl) (ea_lt rfl) rfl ?_
  refine ev_aload_n (ea_at dt_X11_songs 3 rfl) rfl ?_
  refine ev_iload_n (ea_at dt_X11_songs 4 rfl) rfl ?_
  refine ev_cxU (F1 := F_X11_needSongs) rfl (fun zY hY => ea_runV (As := [.int r2]) (ea_at dt_X11_songs 5 rfl) ml_X11_396 mv_X11_needSongs (ok_X11_needSongs G r2 m1  zY hY) sh_0 rfl rfl rfl (Nat.le_of_ble_eq_true rfl) rfl) rfl ⟨by decide, by decide⟩ (fun kx mx t e q => ⟨0, by cases e; exact hR _ q⟩) (fun r4 m3 => ?_)
  refine ev_iconst (ea_at dt_X11_songs 6 rfl) ic_0 ?_
  refine ev_istore_n (ls' := [some (.ref 0), some (.int p1), some (.int r2), some (.int 0), none, none]) (ea_at dt_X11_songs 7 rfl) (ea_lt rfl) rfl ?_
  refine ev_iconst (ea_at dt_X11_songs 8 rfl) ic_1 ?_
  refine ev_aload_n (ea_at dt_X11_songs 9 rfl) rfl ?_
  refine ev_getR (ea_at dt_X11_songs 10 rfl) fl_X11_23 sh_0 rfl ?_
  refine ev_getI (ea_at dt_X11_songs 11 rfl) fl_X11_233 sh_2 rfl ?_
  refine ev_i (fun x5 => ?_)
  refine ev_ishl (ea_at dt_X11_songs 12 rfl) ?_
  refine ev_iconst (ea_at dt_X11_songs 13 rfl) ic_1 ?_
  refine ev_isub (ea_at dt_X11_songs 14 rfl) ?_
  refine ev_i (fun x6 => ?_)
  refine ev_istore (ls' := [some (.ref 0), some (.int p1), some (.int r2), some (.int 0), some (.int x6), none]) (ea_at dt_X11_songs 15 rfl) (ea_lt rfl) rfl ?_
  refine ev_iconst (ea_at dt_X11_songs 16 rfl) ic_0 ?_
  refine ev_istore (ls' := [some (.ref 0), some (.int p1), some (.int r2), some (.int 0), some (.int x6), some (.int 0)]) (ea_at dt_X11_songs 17 rfl) (ea_lt rfl) rfl ?_
  refine ev_drop (l' := [some (.ref 0), some (.int p1), some (.int r2), some (.int 0), some (.int x6), some (.int 0)]) ⟨Or.inr rfl, Or.inr rfl, Or.inr rfl, Or.inr rfl, Or.inr rfl, Or.inr rfl, trivial⟩ ?_
  refine ev_bind (lp_X11_songs_28 G p1 r2   (fun x28s h => ?_) ea_fuel (0, x6, 0, m3))
  obtain ⟨t1, e1, q1⟩ := h
  refine (?_ : ea_E G F_X11_songs zZ 68 [none, some (.int p1), none, some (.int x28s.1), some (.int x28s.2.1), none] [] x28s.2.2 1 6 _ (fun t => t = zZ)) t1 e1 q1
  refine ev_iload_n (ea_at dt_X11_songs 37 rfl) rfl ?_
  refine ev_if_ne (tgt := 74) (ea_at dt_X11_songs 38 rfl) rfl (fun _ => ?_) (fun _ => ?_)
  · refine ev_iload_n (ea_at dt_X11_songs 39 rfl) rfl ?_
    exact ev_iret (ea_at dt_X11_songs 40 rfl) rfl ⟨by decide, by decide⟩ (fun h => hR _ h)
  · refine ev_iload_n (ea_at dt_X11_songs 41 rfl) rfl ?_
    refine ev_if_ne (tgt := 82) (ea_at dt_X11_songs 42 rfl) rfl (fun _ => ?_) (fun _ => ?_)
    · refine ev_iconst (ea_at dt_X11_songs 43 rfl) ic_0 ?_
      refine ev_goto (tgt := 84) (ea_at dt_X11_songs 44 rfl) rfl ?_
      exact ev_iret (ea_at dt_X11_songs 46 rfl) rfl ⟨by decide, by decide⟩ (fun h => hR _ h)
    · refine ev_iload (ea_at dt_X11_songs 45 rfl) rfl ?_
      exact ev_iret (ea_at dt_X11_songs 46 rfl) rfl ⟨by decide, by decide⟩ (fun h => hR _ h)
def F_X11_setsThatSing : ea_F := (ea_rm 10 0 0, cX11_setsThatSing, RX11, some .int, 6, [], 0, 0)
def D_X11_setsThatSing : List (Nat × Instr × Nat) := [(0, .iconst 0, 1), (1, .istore 4, 2), (3, .iconst 0, 1), (4, .istore 5, 2), (6, .iload 5, 2), (8, .iconst 1, 1), (9, .aload_n 0, 1), (10, .getfield 23, 3), (13, .getfield 233, 3), (16, .ishl, 1), (17, .if_icmp .ge 39, 3), (20, .aload_n 0, 1), (21, .getfield 23, 3), (24, .iload 5, 2), (26, .invokevirtual 409, 3), (29, .iload_n 1, 1), (30, .ishr, 1), (31, .iconst 1, 1), (32, .iand, 1), (33, .iload_n 3, 1), (34, .if_icmp .ne 16, 3), (37, .aload_n 0, 1), (38, .iload 5, 2), (40, .iload_n 2, 1), (41, .invokevirtual 399, 3), (44, .ifCond .eq 6, 3), (47, .iinc 4 1, 3), (50, .iinc 5 1, 3), (53, .goto (-47), 3), (56, .iload 4, 2), (58, .ireturn, 1)]
theorem dt_X11_setsThatSing : ∀ q ∈ D_X11_setsThatSing, decode cX11_setsThatSing q.1 = .ok q.2 := by decide +kernel
theorem mv_X11_setsThatSing : ea_MV yX11_setsThatSing (F_X11_setsThatSing) 3 := ⟨⟨List.mem_append_right _ (List.mem_of_getElem? (i := 1) (by decide +kernel)), List.mem_append_right _ (List.mem_of_getElem? (i := 1326) (by decide +kernel)), ⟨by decide, by decide⟩, by decide +kernel⟩, List.mem_append_right _ (List.mem_of_getElem? (i := 1325) (by decide +kernel)), List.mem_append_left _ (List.mem_of_getElem? (i := 39) (by decide +kernel))⟩
def f_X11_setsThatSing_j50 (p1 : Int32) (p2 : Int32) (p3 : Int32) (x7 : Int32) (x8 : Int32) (m9 : ea_M) : Option ((Int32 × Int32 × ea_M) ⊕ (Int32 × ea_M)) :=
  some (.inl (x7, x8 + 1, m9))
def f_X11_setsThatSing_s6 (p1 : Int32) (p2 : Int32) (p3 : Int32)  (s6 : Int32 × Int32 × ea_M) : Option ((Int32 × Int32 × ea_M) ⊕ (Int32 × ea_M)) :=
  ea_bd (s6.2.2 2 8) fun x1 =>
  if (1 <<< (x1 &&& 31)) ≤ s6.2.1 then
  some (.inr (s6.1, s6.2.2))
  else
  ea_cl (f_X2_tunesOf 2 s6.2.1 s6.2.2) fun r3 m2 =>
  ea_bd ((r3 >>> (p1 &&& 31)) &&& 1) fun x4 =>
  if x4 = p3 then
  ea_cl (f_X11_canHaveSung s6.2.1 p2 m2) fun r6 m5 =>
  if r6 = 0 then
  f_X11_setsThatSing_j50 p1 p2 p3 s6.1 s6.2.1 m5
  else
  f_X11_setsThatSing_j50 p1 p2 p3 (s6.1 + 1) s6.2.1 m5
  else
  f_X11_setsThatSing_j50 p1 p2 p3 s6.1 s6.2.1 m2
def f_X11_setsThatSing (p1 : Int32) (p2 : Int32) (p3 : Int32) (m : ea_M) : Option (Int32 × ea_M) :=
  (ea_loop (f_X11_setsThatSing_s6 p1 p2 p3) ea_fuel (0, 0, m)).bind (fun x6s =>
  some (x6s.1, x6s.2))
set_option maxHeartbeats 300000 in
theorem jn_X11_setsThatSing_50 (G : ea_G) {res : ea_O}  (p1 : Int32) (p2 : Int32) (p3 : Int32) (x7 : Int32) (x8 : Int32) (m9 : ea_M)  {Φ : ((Int32 × Int32 × ea_M) ⊕ (Int32 × ea_M)) → Prop} (hC : ∀ s6 : Int32 × Int32 × ea_M, Φ (.inl s6) → ea_Ev G F_X11_setsThatSing res 6 [some (.ref 0), some (.int p1), some (.int p2), some (.int p3), some (.int s6.1), some (.int s6.2.1)] [] s6.2.2 0 0) (hX : ∀ x6s : Int32 × ea_M, Φ (.inr x6s) → ea_Ev G F_X11_setsThatSing res 56 [none, none, none, none, some (.int x6s.1), none] [] x6s.2 0 0) : ea_E G F_X11_setsThatSing res 50 [some (.ref 0), some (.int p1), some (.int p2), some (.int p3), some (.int x7), some (.int x8)] [] m9 0 0 (f_X11_setsThatSing_j50 p1 p2 p3 x7 x8 m9) Φ := by
  unfold f_X11_setsThatSing_j50
  refine ev_iinc (ls' := [some (.ref 0), some (.int p1), some (.int p2), some (.int p3), some (.int x7), some (.int (x8 + 1))]) (ea_at dt_X11_setsThatSing 27 rfl) rfl (congrArg (fun z => _ + z) ic_1) (ea_lt rfl) rfl ?_
  refine ev_goto (tgt := 6) (ea_at dt_X11_setsThatSing 28 rfl) rfl ?_
  exact ev_leaf (fun h => ea_drop (l' := [some (.ref 0), some (.int p1), some (.int p2), some (.int p3), some (.int x7), some (.int (x8 + 1))]) ⟨Or.inr rfl, Or.inr rfl, Or.inr rfl, Or.inr rfl, Or.inr rfl, Or.inr rfl, trivial⟩ (hC (x7, x8 + 1, m9) h))
set_option maxHeartbeats 300000 in
theorem lp_X11_setsThatSing_6 (G : ea_G) {res : ea_O}  (p1 : Int32) (p2 : Int32) (p3 : Int32)  {Ψ : (Int32 × ea_M) → Prop} (hX : ∀ x6s : Int32 × ea_M, Ψ x6s → ea_Ev G F_X11_setsThatSing res 56 [none, none, none, none, some (.int x6s.1), none] [] x6s.2 0 0) : ∀ (f : Nat) (s6 : Int32 × Int32 × ea_M), ea_E G F_X11_setsThatSing res 6 [some (.ref 0), some (.int p1), some (.int p2), some (.int p3), some (.int s6.1), some (.int s6.2.1)] [] s6.2.2 0 0 (ea_loop (f_X11_setsThatSing_s6 p1 p2 p3) f s6) Ψ := by
  refine ev_loop (G := G) (F := F_X11_setsThatSing) (res := res) (pc := 6) (st := []) (k := 0) (n := 0) (step := (f_X11_setsThatSing_s6 p1 p2 p3)) (Ψ := Ψ) (fun (s6 : Int32 × Int32 × ea_M) => [some (.ref 0), some (.int p1), some (.int p2), some (.int p3), some (.int s6.1), some (.int s6.2.1)]) (fun (s6 : Int32 × Int32 × ea_M) => s6.2.2) (fun s6 => ?_)
  have hC : ∀ s6 : Int32 × Int32 × ea_M, (Sum.elim (fun s6 : Int32 × Int32 × ea_M => ea_Ev G F_X11_setsThatSing res 6 [some (.ref 0), some (.int p1), some (.int p2), some (.int p3), some (.int s6.1), some (.int s6.2.1)] [] s6.2.2 0 0) Ψ) (.inl s6) → ea_Ev G F_X11_setsThatSing res 6 [some (.ref 0), some (.int p1), some (.int p2), some (.int p3), some (.int s6.1), some (.int s6.2.1)] [] s6.2.2 0 0 := fun _ h => h
  have hX : ∀ x6s : Int32 × ea_M, (Sum.elim (fun s6 : Int32 × Int32 × ea_M => ea_Ev G F_X11_setsThatSing res 6 [some (.ref 0), some (.int p1), some (.int p2), some (.int p3), some (.int s6.1), some (.int s6.2.1)] [] s6.2.2 0 0) Ψ) (.inr x6s) → ea_Ev G F_X11_setsThatSing res 56 [none, none, none, none, some (.int x6s.1), none] [] x6s.2 0 0 := hX
  unfold f_X11_setsThatSing_s6
  refine ev_iload (ea_at dt_X11_setsThatSing 4 rfl) rfl ?_
  refine ev_iconst (ea_at dt_X11_setsThatSing 5 rfl) ic_1 ?_
  refine ev_aload_n (ea_at dt_X11_setsThatSing 6 rfl) rfl ?_
  refine ev_getR (ea_at dt_X11_setsThatSing 7 rfl) fl_X11_23 sh_0 rfl ?_
  refine ev_getI (ea_at dt_X11_setsThatSing 8 rfl) fl_X11_233 sh_2 rfl ?_
  refine ev_i (fun x1 => ?_)
  refine ev_ishl (ea_at dt_X11_setsThatSing 9 rfl) ?_
  refine ev_icmp_ge (tgt := 56) (ea_at dt_X11_setsThatSing 10 rfl) rfl (fun _ => ?_) (fun _ => ?_)
  · exact ev_leaf (fun h => ea_drop (l' := [none, none, none, none, some (.int s6.1), none]) ⟨Or.inl rfl, Or.inl rfl, Or.inl rfl, Or.inl rfl, Or.inr rfl, Or.inl rfl, trivial⟩ (hX (s6.1, s6.2.2) h))
  · refine ev_aload_n (ea_at dt_X11_setsThatSing 11 rfl) rfl ?_
    refine ev_getR (ea_at dt_X11_setsThatSing 12 rfl) fl_X11_23 sh_0 rfl ?_
    refine ev_iload (ea_at dt_X11_setsThatSing 13 rfl) rfl ?_
    refine ev_clI (F1 := F_X2_tunesOf) (fun rY mY hY => ea_runV (As := [.int s6.2.1]) (ea_at dt_X11_setsThatSing 14 rfl) ml_X11_409 mv_X2_tunesOf (ok_X2_tunesOf G 2 s6.2.1 s6.2.2 is_Court_2 rY mY hY) sh_2 rfl rfl rfl (Nat.le_of_ble_eq_true rfl) rfl) rfl (fun r3 m2 => ?_)
    refine ev_iload_n (ea_at dt_X11_setsThatSing 15 rfl) rfl ?_
    refine ev_ishr (ea_at dt_X11_setsThatSing 16 rfl) ?_
    refine ev_iconst (ea_at dt_X11_setsThatSing 17 rfl) ic_1 ?_
    refine ev_iand (ea_at dt_X11_setsThatSing 18 rfl) ?_
    refine ev_i (fun x4 => ?_)
    refine ev_iload_n (ea_at dt_X11_setsThatSing 19 rfl) rfl ?_
    refine ev_icmp_ne (tgt := 50) (ea_at dt_X11_setsThatSing 20 rfl) rfl (fun _ => ?_) (fun _ => ?_)
    · refine ev_aload_n (ea_at dt_X11_setsThatSing 21 rfl) rfl ?_
      refine ev_iload (ea_at dt_X11_setsThatSing 22 rfl) rfl ?_
      refine ev_iload_n (ea_at dt_X11_setsThatSing 23 rfl) rfl ?_
      refine ev_clI (F1 := F_X11_canHaveSung) (fun rY mY hY => ea_runV (As := [.int s6.2.1, .int p2]) (ea_at dt_X11_setsThatSing 24 rfl) ml_X11_399 mv_X11_canHaveSung (ok_X11_canHaveSung G s6.2.1 p2 m2  rY mY hY) sh_0 rfl rfl rfl (Nat.le_of_ble_eq_true rfl) rfl) rfl (fun r6 m5 => ?_)
      refine ev_if_eq (tgt := 50) (ea_at dt_X11_setsThatSing 25 rfl) rfl (fun _ => ?_) (fun _ => ?_)
      · exact ev_drop (l' := [some (.ref 0), some (.int p1), some (.int p2), some (.int p3), some (.int s6.1), some (.int s6.2.1)]) ⟨Or.inr rfl, Or.inr rfl, Or.inr rfl, Or.inr rfl, Or.inr rfl, Or.inr rfl, trivial⟩ (jn_X11_setsThatSing_50 G p1 p2 p3 s6.1 s6.2.1 m5  hC hX)
      · refine ev_iinc (ls' := [some (.ref 0), some (.int p1), some (.int p2), some (.int p3), some (.int (s6.1 + 1)), some (.int s6.2.1)]) (ea_at dt_X11_setsThatSing 26 rfl) rfl (congrArg (fun z => _ + z) ic_1) (ea_lt rfl) rfl ?_
        exact ev_drop (l' := [some (.ref 0), some (.int p1), some (.int p2), some (.int p3), some (.int (s6.1 + 1)), some (.int s6.2.1)]) ⟨Or.inr rfl, Or.inr rfl, Or.inr rfl, Or.inr rfl, Or.inr rfl, Or.inr rfl, trivial⟩ (jn_X11_setsThatSing_50 G p1 p2 p3 (s6.1 + 1) s6.2.1 m5  hC hX)
    · exact ev_drop (l' := [some (.ref 0), some (.int p1), some (.int p2), some (.int p3), some (.int s6.1), some (.int s6.2.1)]) ⟨Or.inr rfl, Or.inr rfl, Or.inr rfl, Or.inr rfl, Or.inr rfl, Or.inr rfl, trivial⟩ (jn_X11_setsThatSing_50 G p1 p2 p3 s6.1 s6.2.1 m2  hC hX)
set_option maxHeartbeats 300000 in
theorem ok_X11_setsThatSing (G : ea_G) (p1 : Int32) (p2 : Int32) (p3 : Int32) (m : ea_M)  (rZ : Int32) (mZ : ea_M) (hZ : f_X11_setsThatSing p1 p2 p3 m = some (rZ, mZ)) : ea_Met G yX11_setsThatSing F_X11_setsThatSing [.ref 0, .int p1, .int p2, .int p3] m (0, rZ, mZ) := by
  refine ea_met (F := F_X11_setsThatSing) (by decide +kernel) rfl rfl (Nat.le_of_ble_eq_true rfl) (by simp only [List.mem_cons, List.not_mem_nil, or_false]; intro v hv; rcases hv with rfl | rfl | rfl | rfl <;> rfl) ((?_ : ea_E G F_X11_setsThatSing (0, rZ, mZ) 0 [some (.ref 0), some (.int p1), some (.int p2), some (.int p3), none, none] [] m 0 0 (f_X11_setsThatSing p1 p2 p3 m) (fun t => t = (rZ, mZ))) (rZ, mZ) hZ rfl)
  have hR : ∀ t : Int32 × ea_M, t = (rZ, mZ) → ((0, rZ, mZ) : ea_O) = (0, t) := fun t h => by rw [h]
  unfold f_X11_setsThatSing
  refine ev_iconst (ea_at dt_X11_setsThatSing 0 rfl) ic_0 ?_
  refine ev_istore (ls' := [some (.ref 0), some (.int p1), some (.int p2), some (.int p3), some (.int 0), none]) (ea_at dt_X11_setsThatSing 1 rfl) (ea_lt rfl) rfl ?_
  refine ev_iconst (ea_at dt_X11_setsThatSing 2 rfl) ic_0 ?_
  refine ev_istore (ls' := [some (.ref 0), some (.int p1), some (.int p2), some (.int p3), some (.int 0), some (.int 0)]) (ea_at dt_X11_setsThatSing 3 rfl) (ea_lt rfl) rfl ?_
  refine ev_drop (l' := [some (.ref 0), some (.int p1), some (.int p2), some (.int p3), some (.int 0), some (.int 0)]) ⟨Or.inr rfl, Or.inr rfl, Or.inr rfl, Or.inr rfl, Or.inr rfl, Or.inr rfl, trivial⟩ ?_
  refine ev_bind (lp_X11_setsThatSing_6 G p1 p2 p3   (fun x6s h => ?_) ea_fuel (0, 0, m))
  obtain ⟨t1, e1, q1⟩ := h
  refine (?_ : ea_E G F_X11_setsThatSing (0, rZ, mZ) 56 [none, none, none, none, some (.int x6s.1), none] [] x6s.2 0 0 _ (fun t => t = (rZ, mZ))) t1 e1 q1
  refine ev_iload (ea_at dt_X11_setsThatSing 29 rfl) rfl ?_
  exact ev_iret (ea_at dt_X11_setsThatSing 30 rfl) rfl ⟨by decide, by decide⟩ (fun h => hR _ h)
def F_X11_ask : ea_F := (ea_rm 11 1 6, cX11_ask, RX11, some .int, 7, [], 1, 6)
def D_X11_ask : List (Nat × Instr × Nat) := [(0, .aload_n 0, 1), (1, .invokevirtual 117, 3), (4, .istore_n 1, 1), (5, .aload_n 0, 1), (6, .iload_n 1, 1), (7, .invokevirtual 396, 3), (10, .bipush 65, 2), (12, .istore_n 2, 1), (13, .iconst (-1), 1), (14, .istore_n 3, 1), (15, .iconst 0, 1), (16, .istore 4, 2), (18, .iload 4, 2), (20, .bipush 6, 2), (22, .if_icmp .ge 60, 3), (25, .aload_n 0, 1), (26, .iload 4, 2), (28, .iload_n 1, 1), (29, .iconst 1, 1), (30, .invokevirtual 403, 3), (33, .istore 5, 2), (35, .aload_n 0, 1), (36, .iload 4, 2), (38, .iload_n 1, 1), (39, .iconst 0, 1), (40, .invokevirtual 403, 3), (43, .istore 6, 2), (45, .iload 5, 2), (47, .iload 6, 2), (49, .iadd, 1), (50, .iconst 2, 1), (51, .if_icmp .lt 25, 3), (54, .iload 5, 2), (56, .iload 6, 2), (58, .invokestatic 406, 3), (61, .iload_n 2, 1), (62, .if_icmp .ge 14, 3), (65, .iload 5, 2), (67, .iload 6, 2), (69, .invokestatic 406, 3), (72, .istore_n 2, 1), (73, .iload 4, 2), (75, .istore_n 3, 1), (76, .iinc 4 1, 3), (79, .goto (-61), 3), (82, .iload_n 3, 1), (83, .ireturn, 1)]
theorem dt_X11_ask : ∀ q ∈ D_X11_ask, decode cX11_ask q.1 = .ok q.2 := by decide +kernel
theorem mv_X11_ask : ea_MV yX11_ask (F_X11_ask) 0 := ⟨⟨List.mem_append_right _ (List.mem_of_getElem? (i := 1) (by decide +kernel)), List.mem_append_right _ (List.mem_of_getElem? (i := 1322) (by decide +kernel)), ⟨by decide, by decide⟩, by decide +kernel⟩, List.mem_append_right _ (List.mem_of_getElem? (i := 1320) (by decide +kernel)), List.mem_append_right _ (List.mem_of_getElem? (i := 1321) (by decide +kernel))⟩
def f_X11_ask_j76 (r2 : Int32) (x9 : Int32) (x10 : Int32) (x11 : Int32) (m12 : ea_M) : Option ((Int32 × Int32 × Int32 × ea_M) ⊕ (Int32 × ea_M)) :=
  some (.inl (x9, x10, x11 + 1, m12))
def f_X11_ask_s18 (r2 : Int32)  (s18 : Int32 × Int32 × Int32 × ea_M) : Option ((Int32 × Int32 × Int32 × ea_M) ⊕ (Int32 × ea_M)) :=
  if 6 ≤ s18.2.2.1 then
  some (.inr (s18.2.1, s18.2.2.2))
  else
  ea_cl (f_X11_setsThatSing s18.2.2.1 r2 1 s18.2.2.2) fun r6 m5 =>
  ea_cl (f_X11_setsThatSing s18.2.2.1 r2 0 m5) fun r8 m7 =>
  if (r6 + r8) < 2 then
  f_X11_ask_j76 r2 s18.1 s18.2.1 s18.2.2.1 m7
  else
  ea_bd (ea_max r6 r8) fun x13 =>
  if s18.1 ≤ x13 then
  f_X11_ask_j76 r2 s18.1 s18.2.1 s18.2.2.1 m7
  else
  ea_bd (ea_max r6 r8) fun x14 =>
  f_X11_ask_j76 r2 x14 s18.2.2.1 s18.2.2.1 m7
def f_X11_ask (m : ea_M) : Option (ea_O) :=
  ea_cl (f_X11_useTapeUp m) fun r2 m1 =>
  ea_cx (f_X11_needSongs r2 m1) (fun r4 m3 =>
  (ea_loop (f_X11_ask_s18 r2) ea_fuel (65, (-1), 0, m3)).bind (fun x18s =>
  some (0, x18s.1, x18s.2))) (fun kx mx => some (kx, 0, mx))
set_option maxHeartbeats 300000 in
theorem jn_X11_ask_76 (G : ea_G) {res : ea_O}  (r2 : Int32) (x9 : Int32) (x10 : Int32) (x11 : Int32) (m12 : ea_M)  {Φ : ((Int32 × Int32 × Int32 × ea_M) ⊕ (Int32 × ea_M)) → Prop} (hC : ∀ s18 : Int32 × Int32 × Int32 × ea_M, Φ (.inl s18) → ea_Ev G F_X11_ask res 18 [some (.ref 0), some (.int r2), some (.int s18.1), some (.int s18.2.1), some (.int s18.2.2.1), none, none] [] s18.2.2.2 1 6) (hX : ∀ x18s : Int32 × ea_M, Φ (.inr x18s) → ea_Ev G F_X11_ask res 82 [none, none, none, some (.int x18s.1), none, none, none] [] x18s.2 1 6) : ea_E G F_X11_ask res 76 [some (.ref 0), some (.int r2), some (.int x9), some (.int x10), some (.int x11), none, none] [] m12 1 6 (f_X11_ask_j76 r2 x9 x10 x11 m12) Φ := by
  unfold f_X11_ask_j76
  refine ev_iinc (ls' := [some (.ref 0), some (.int r2), some (.int x9), some (.int x10), some (.int (x11 + 1)), none, none]) (ea_at dt_X11_ask 43 rfl) rfl (congrArg (fun z => _ + z) ic_1) (ea_lt rfl) rfl ?_
  refine ev_goto (tgt := 18) (ea_at dt_X11_ask 44 rfl) rfl ?_
  exact ev_leaf (fun h => ea_drop (l' := [some (.ref 0), some (.int r2), some (.int x9), some (.int x10), some (.int (x11 + 1)), none, none]) ⟨Or.inr rfl, Or.inr rfl, Or.inr rfl, Or.inr rfl, Or.inr rfl, Or.inl rfl, Or.inl rfl, trivial⟩ (hC (x9, x10, x11 + 1, m12) h))
set_option maxHeartbeats 300000 in
theorem lp_X11_ask_18 (G : ea_G) {res : ea_O}  (r2 : Int32)  {Ψ : (Int32 × ea_M) → Prop} (hX : ∀ x18s : Int32 × ea_M, Ψ x18s → ea_Ev G F_X11_ask res 82 [none, none, none, some (.int x18s.1), none, none, none] [] x18s.2 1 6) : ∀ (f : Nat) (s18 : Int32 × Int32 × Int32 × ea_M), ea_E G F_X11_ask res 18 [some (.ref 0), some (.int r2), some (.int s18.1), some (.int s18.2.1), some (.int s18.2.2.1), none, none] [] s18.2.2.2 1 6 (ea_loop (f_X11_ask_s18 r2) f s18) Ψ := by
  refine ev_loop (G := G) (F := F_X11_ask) (res := res) (pc := 18) (st := []) (k := 1) (n := 6) (step := (f_X11_ask_s18 r2)) (Ψ := Ψ) (fun (s18 : Int32 × Int32 × Int32 × ea_M) => [some (.ref 0), some (.int r2), some (.int s18.1), some (.int s18.2.1), some (.int s18.2.2.1), none, none]) (fun (s18 : Int32 × Int32 × Int32 × ea_M) => s18.2.2.2) (fun s18 => ?_)
  have hC : ∀ s18 : Int32 × Int32 × Int32 × ea_M, (Sum.elim (fun s18 : Int32 × Int32 × Int32 × ea_M => ea_Ev G F_X11_ask res 18 [some (.ref 0), some (.int r2), some (.int s18.1), some (.int s18.2.1), some (.int s18.2.2.1), none, none] [] s18.2.2.2 1 6) Ψ) (.inl s18) → ea_Ev G F_X11_ask res 18 [some (.ref 0), some (.int r2), some (.int s18.1), some (.int s18.2.1), some (.int s18.2.2.1), none, none] [] s18.2.2.2 1 6 := fun _ h => h
  have hX : ∀ x18s : Int32 × ea_M, (Sum.elim (fun s18 : Int32 × Int32 × Int32 × ea_M => ea_Ev G F_X11_ask res 18 [some (.ref 0), some (.int r2), some (.int s18.1), some (.int s18.2.1), some (.int s18.2.2.1), none, none] [] s18.2.2.2 1 6) Ψ) (.inr x18s) → ea_Ev G F_X11_ask res 82 [none, none, none, some (.int x18s.1), none, none, none] [] x18s.2 1 6 := hX
  unfold f_X11_ask_s18
  refine ev_iload (ea_at dt_X11_ask 12 rfl) rfl ?_
  refine ev_bipush (ea_at dt_X11_ask 13 rfl) bp_6 ?_
  refine ev_icmp_ge (tgt := 82) (ea_at dt_X11_ask 14 rfl) rfl (fun _ => ?_) (fun _ => ?_)
  · exact ev_leaf (fun h => ea_drop (l' := [none, none, none, some (.int s18.2.1), none, none, none]) ⟨Or.inl rfl, Or.inl rfl, Or.inl rfl, Or.inr rfl, Or.inl rfl, Or.inl rfl, Or.inl rfl, trivial⟩ (hX (s18.2.1, s18.2.2.2) h))
  · refine ev_aload_n (ea_at dt_X11_ask 15 rfl) rfl ?_
    refine ev_iload (ea_at dt_X11_ask 16 rfl) rfl ?_
    refine ev_iload_n (ea_at dt_X11_ask 17 rfl) rfl ?_
    refine ev_iconst (ea_at dt_X11_ask 18 rfl) ic_1 ?_
    refine ev_clI (F1 := F_X11_setsThatSing) (fun rY mY hY => ea_runV (As := [.int s18.2.2.1, .int r2, .int 1]) (ea_at dt_X11_ask 19 rfl) ml_X11_403 mv_X11_setsThatSing (ok_X11_setsThatSing G s18.2.2.1 r2 1 s18.2.2.2  rY mY hY) sh_0 rfl rfl rfl (Nat.le_of_ble_eq_true rfl) rfl) rfl (fun r6 m5 => ?_)
    refine ev_istore (ls' := [some (.ref 0), some (.int r2), some (.int s18.1), some (.int s18.2.1), some (.int s18.2.2.1), some (.int r6), none]) (ea_at dt_X11_ask 20 rfl) (ea_lt rfl) rfl ?_
    refine ev_aload_n (ea_at dt_X11_ask 21 rfl) rfl ?_
    refine ev_iload (ea_at dt_X11_ask 22 rfl) rfl ?_
    refine ev_iload_n (ea_at dt_X11_ask 23 rfl) rfl ?_
    refine ev_iconst (ea_at dt_X11_ask 24 rfl) ic_0 ?_
    refine ev_clI (F1 := F_X11_setsThatSing) (fun rY mY hY => ea_runV (As := [.int s18.2.2.1, .int r2, .int 0]) (ea_at dt_X11_ask 25 rfl) ml_X11_403 mv_X11_setsThatSing (ok_X11_setsThatSing G s18.2.2.1 r2 0 m5  rY mY hY) sh_0 rfl rfl rfl (Nat.le_of_ble_eq_true rfl) rfl) rfl (fun r8 m7 => ?_)
    refine ev_istore (ls' := [some (.ref 0), some (.int r2), some (.int s18.1), some (.int s18.2.1), some (.int s18.2.2.1), some (.int r6), some (.int r8)]) (ea_at dt_X11_ask 26 rfl) (ea_lt rfl) rfl ?_
    refine ev_iload (ea_at dt_X11_ask 27 rfl) rfl ?_
    refine ev_iload (ea_at dt_X11_ask 28 rfl) rfl ?_
    refine ev_iadd (ea_at dt_X11_ask 29 rfl) ?_
    refine ev_iconst (ea_at dt_X11_ask 30 rfl) ic_2 ?_
    refine ev_icmp_lt (tgt := 76) (ea_at dt_X11_ask 31 rfl) rfl (fun _ => ?_) (fun _ => ?_)
    · exact ev_drop (l' := [some (.ref 0), some (.int r2), some (.int s18.1), some (.int s18.2.1), some (.int s18.2.2.1), none, none]) ⟨Or.inr rfl, Or.inr rfl, Or.inr rfl, Or.inr rfl, Or.inr rfl, Or.inl rfl, Or.inl rfl, trivial⟩ (jn_X11_ask_76 G r2 s18.1 s18.2.1 s18.2.2.1 m7  hC hX)
    · refine ev_iload (ea_at dt_X11_ask 32 rfl) rfl ?_
      refine ev_iload (ea_at dt_X11_ask 33 rfl) rfl ?_
      refine ev_mmax (ea_at dt_X11_ask 34 rfl) ml_X11_406 ea_maW_max ⟨by decide, Nat.le_of_ble_eq_true rfl, by decide, by decide⟩ ?_
      refine ev_i (fun x13 => ?_)
      refine ev_iload_n (ea_at dt_X11_ask 35 rfl) rfl ?_
      refine ev_icmp_ge (tgt := 76) (ea_at dt_X11_ask 36 rfl) rfl (fun _ => ?_) (fun _ => ?_)
      · exact ev_drop (l' := [some (.ref 0), some (.int r2), some (.int s18.1), some (.int s18.2.1), some (.int s18.2.2.1), none, none]) ⟨Or.inr rfl, Or.inr rfl, Or.inr rfl, Or.inr rfl, Or.inr rfl, Or.inl rfl, Or.inl rfl, trivial⟩ (jn_X11_ask_76 G r2 s18.1 s18.2.1 s18.2.2.1 m7  hC hX)
      · refine ev_iload (ea_at dt_X11_ask 37 rfl) rfl ?_
        refine ev_iload (ea_at dt_X11_ask 38 rfl) rfl ?_
        refine ev_mmax (ea_at dt_X11_ask 39 rfl) ml_X11_406 ea_maW_max ⟨by decide, Nat.le_of_ble_eq_true rfl, by decide, by decide⟩ ?_
        refine ev_i (fun x14 => ?_)
        refine ev_istore_n (ls' := [some (.ref 0), some (.int r2), some (.int x14), some (.int s18.2.1), some (.int s18.2.2.1), some (.int r6), some (.int r8)]) (ea_at dt_X11_ask 40 rfl) (ea_lt rfl) rfl ?_
        refine ev_iload (ea_at dt_X11_ask 41 rfl) rfl ?_
        refine ev_istore_n (ls' := [some (.ref 0), some (.int r2), some (.int x14), some (.int s18.2.2.1), some (.int s18.2.2.1), some (.int r6), some (.int r8)]) (ea_at dt_X11_ask 42 rfl) (ea_lt rfl) rfl ?_
        exact ev_drop (l' := [some (.ref 0), some (.int r2), some (.int x14), some (.int s18.2.2.1), some (.int s18.2.2.1), none, none]) ⟨Or.inr rfl, Or.inr rfl, Or.inr rfl, Or.inr rfl, Or.inr rfl, Or.inl rfl, Or.inl rfl, trivial⟩ (jn_X11_ask_76 G r2 x14 s18.2.2.1 s18.2.2.1 m7  hC hX)
set_option maxHeartbeats 300000 in
theorem ok_X11_ask (G : ea_G) (m : ea_M)  (zZ : ea_O) (hZ : f_X11_ask m = some zZ) : ea_Met G yX11_ask F_X11_ask [.ref 0] m zZ := by
  refine ea_met (F := F_X11_ask) (by decide +kernel) rfl rfl (Nat.le_of_ble_eq_true rfl) (by simp only [List.mem_cons, List.not_mem_nil, or_false]; intro v hv; rcases hv with rfl <;> rfl) ((?_ : ea_E G F_X11_ask zZ 0 [some (.ref 0), none, none, none, none, none, none] [] m 0 0 (f_X11_ask m) (fun t => t = zZ)) zZ hZ rfl)
  have hR : ∀ t : ea_O, t = zZ → zZ = t := fun t h => h.symm
  unfold f_X11_ask
  refine ev_aload_n (ea_at dt_X11_ask 0 rfl) rfl ?_
  refine ev_clI (F1 := F_X11_useTapeUp) (fun rY mY hY => ea_runV (As := []) (ea_at dt_X11_ask 1 rfl) ml_X11_117 mv_X11_useTapeUp (ok_X11_useTapeUp G m  rY mY hY) sh_0 rfl rfl rfl (Nat.le_of_ble_eq_true rfl) rfl) rfl (fun r2 m1 => ?_)
  refine ev_istore_n (ls' := [some (.ref 0), some (.int r2), none, none, none, none, none]) (ea_at dt_X11_ask 2 rfl) (ea_lt rfl) rfl ?_
  refine ev_aload_n (ea_at dt_X11_ask 3 rfl) rfl ?_
  refine ev_iload_n (ea_at dt_X11_ask 4 rfl) rfl ?_
  refine ev_cxU (F1 := F_X11_needSongs) rfl (fun zY hY => ea_runV (As := [.int r2]) (ea_at dt_X11_ask 5 rfl) ml_X11_396 mv_X11_needSongs (ok_X11_needSongs G r2 m1  zY hY) sh_0 rfl rfl rfl (Nat.le_of_ble_eq_true rfl) rfl) rfl ⟨by decide, by decide⟩ (fun kx mx t e q => ⟨0, by cases e; exact hR _ q⟩) (fun r4 m3 => ?_)
  refine ev_bipush (ea_at dt_X11_ask 6 rfl) bp_65 ?_
  refine ev_istore_n (ls' := [some (.ref 0), some (.int r2), some (.int 65), none, none, none, none]) (ea_at dt_X11_ask 7 rfl) (ea_lt rfl) rfl ?_
  refine ev_iconst (ea_at dt_X11_ask 8 rfl) ic_m1 ?_
  refine ev_istore_n (ls' := [some (.ref 0), some (.int r2), some (.int 65), some (.int (-1)), none, none, none]) (ea_at dt_X11_ask 9 rfl) (ea_lt rfl) rfl ?_
  refine ev_iconst (ea_at dt_X11_ask 10 rfl) ic_0 ?_
  refine ev_istore (ls' := [some (.ref 0), some (.int r2), some (.int 65), some (.int (-1)), some (.int 0), none, none]) (ea_at dt_X11_ask 11 rfl) (ea_lt rfl) rfl ?_
  refine ev_drop (l' := [some (.ref 0), some (.int r2), some (.int 65), some (.int (-1)), some (.int 0), none, none]) ⟨Or.inr rfl, Or.inr rfl, Or.inr rfl, Or.inr rfl, Or.inr rfl, Or.inl rfl, Or.inl rfl, trivial⟩ ?_
  refine ev_bind (lp_X11_ask_18 G r2   (fun x18s h => ?_) ea_fuel (65, (-1), 0, m3))
  obtain ⟨t1, e1, q1⟩ := h
  refine (?_ : ea_E G F_X11_ask zZ 82 [none, none, none, some (.int x18s.1), none, none, none] [] x18s.2 1 6 _ (fun t => t = zZ)) t1 e1 q1
  refine ev_iload_n (ea_at dt_X11_ask 45 rfl) rfl ?_
  exact ev_iret (ea_at dt_X11_ask 46 rfl) rfl ⟨by decide, by decide⟩ (fun h => hR _ h)
def F_X11_lasts : ea_F := (ea_rm 9 3 18, cX11_lasts, RX11, some .int, 6, [], 3, 18)
def D_X11_lasts : List (Nat × Instr × Nat) := [(0, .aload_n 0, 1), (1, .iload_n 1, 1), (2, .invokevirtual 177, 3), (5, .aload_n 0, 1), (6, .iload_n 2, 1), (7, .invokevirtual 157, 3), (10, .aload_n 0, 1), (11, .iload_n 3, 1), (12, .iconst 1, 1), (13, .bipush 99, 2), (15, .invokevirtual 219, 3), (18, .aload_n 0, 1), (19, .getfield 23, 3), (22, .getfield 180, 3), (25, .iload_n 1, 1), (26, .iload_n 2, 1), (27, .invokevirtual 184, 3), (30, .istore 4, 2), (32, .iconst 0, 1), (33, .istore 5, 2), (35, .iload 5, 2), (37, .bipush 99, 2), (39, .if_icmp .gt 31, 3), (42, .iload 4, 2), (44, .iload 5, 2), (46, .aload_n 0, 1), (47, .getfield 23, 3), (50, .getfield 169, 3), (53, .iload_n 2, 1), (54, .iaload, 1), (55, .imul, 1), (56, .iadd, 1), (57, .iload_n 3, 1), (58, .if_icmp .lt 6, 3), (61, .iload 5, 2), (63, .ireturn, 1), (64, .iinc 5 1, 3), (67, .goto (-32), 3), (70, .iconst (-1), 1), (71, .ireturn, 1)]
theorem dt_X11_lasts : ∀ q ∈ D_X11_lasts, decode cX11_lasts q.1 = .ok q.2 := by decide +kernel
theorem mv_X11_lasts : ea_MV yX11_lasts (F_X11_lasts) 3 := ⟨⟨List.mem_append_right _ (List.mem_of_getElem? (i := 1) (by decide +kernel)), List.mem_append_right _ (List.mem_of_getElem? (i := 1341) (by decide +kernel)), ⟨by decide, by decide⟩, by decide +kernel⟩, List.mem_append_right _ (List.mem_of_getElem? (i := 1339) (by decide +kernel)), List.mem_append_right _ (List.mem_of_getElem? (i := 1340) (by decide +kernel))⟩
def f_X11_lasts_s35 (p2 : Int32) (p3 : Int32) (r8 : Int32)  (s35 : Int32 × ea_M) : Option ((Int32 × ea_M) ⊕ ((ea_O) ⊕ (ea_M))) :=
  if 99 < s35.1 then
  some (.inr (.inr s35.2))
  else
  ea_g p2 6 (ea_bd (s35.2 7 (Int32.toNatClampNeg p2)) fun x9 =>
  ea_bd (r8 + (s35.1 * x9)) fun x10 =>
  if x10 < p3 then
  some (.inl (s35.1 + 1, s35.2))
  else
  some (.inr (.inl (0, s35.1, s35.2))))
def f_X11_lasts (p1 : Int32) (p2 : Int32) (p3 : Int32) (m : ea_M) : Option (ea_O) :=
  ea_cx (f_X11_needCounsel p1 m) (fun r2 m1 =>
  ea_cx (f_X11_needBird p2 m1) (fun r4 m3 =>
  ea_cx (f_X11_needWithin p3 1 99 m3) (fun r6 m5 =>
  ea_cl (f_X1_held 8 p1 p2 m5) fun r8 m7 =>
  ea_sl (ea_loop (f_X11_lasts_s35 p2 p3 r8) ea_fuel (0, m7)) (fun t => some t) (fun x35s =>
  some (0, (-1), x35s))) (fun kx mx => some (kx, 0, mx))) (fun kx mx => some (kx, 0, mx))) (fun kx mx => some (kx, 0, mx))
set_option maxHeartbeats 300000 in
theorem lp_X11_lasts_35 (G : ea_G) {res : ea_O}  (p2 : Int32) (p3 : Int32) (r8 : Int32)  {Ψ : ((ea_O) ⊕ (ea_M)) → Prop} (hR : ∀ t : ea_O, Ψ (.inl t) → res = t) (hX : ∀ x35s : ea_M, Ψ (.inr x35s) → ea_Ev G F_X11_lasts res 70 [none, none, none, none, none, none] [] x35s 3 18) : ∀ (f : Nat) (s35 : Int32 × ea_M), ea_E G F_X11_lasts res 35 [some (.ref 0), none, some (.int p2), some (.int p3), some (.int r8), some (.int s35.1)] [] s35.2 3 18 (ea_loop (f_X11_lasts_s35 p2 p3 r8) f s35) Ψ := by
  refine ev_loop (G := G) (F := F_X11_lasts) (res := res) (pc := 35) (st := []) (k := 3) (n := 18) (step := (f_X11_lasts_s35 p2 p3 r8)) (Ψ := Ψ) (fun (s35 : Int32 × ea_M) => [some (.ref 0), none, some (.int p2), some (.int p3), some (.int r8), some (.int s35.1)]) (fun (s35 : Int32 × ea_M) => s35.2) (fun s35 => ?_)
  have hC : ∀ s35 : Int32 × ea_M, (Sum.elim (fun s35 : Int32 × ea_M => ea_Ev G F_X11_lasts res 35 [some (.ref 0), none, some (.int p2), some (.int p3), some (.int r8), some (.int s35.1)] [] s35.2 3 18) Ψ) (.inl s35) → ea_Ev G F_X11_lasts res 35 [some (.ref 0), none, some (.int p2), some (.int p3), some (.int r8), some (.int s35.1)] [] s35.2 3 18 := fun _ h => h
  have hR : ∀ t : ea_O, (Sum.elim (fun s35 : Int32 × ea_M => ea_Ev G F_X11_lasts res 35 [some (.ref 0), none, some (.int p2), some (.int p3), some (.int r8), some (.int s35.1)] [] s35.2 3 18) Ψ) (.inr (.inl t)) → res = t := hR
  have hX : ∀ x35s : ea_M, (Sum.elim (fun s35 : Int32 × ea_M => ea_Ev G F_X11_lasts res 35 [some (.ref 0), none, some (.int p2), some (.int p3), some (.int r8), some (.int s35.1)] [] s35.2 3 18) Ψ) (.inr (.inr x35s)) → ea_Ev G F_X11_lasts res 70 [none, none, none, none, none, none] [] x35s 3 18 := hX
  unfold f_X11_lasts_s35
  refine ev_iload (ea_at dt_X11_lasts 20 rfl) rfl ?_
  refine ev_bipush (ea_at dt_X11_lasts 21 rfl) bp_99 ?_
  refine ev_icmp_gt (tgt := 70) (ea_at dt_X11_lasts 22 rfl) rfl (fun _ => ?_) (fun _ => ?_)
  · exact ev_leaf (fun h => ea_drop (l' := [none, none, none, none, none, none]) ⟨Or.inl rfl, Or.inl rfl, Or.inl rfl, Or.inl rfl, Or.inl rfl, Or.inl rfl, trivial⟩ (hX s35.2 h))
  · refine ev_iload (ea_at dt_X11_lasts 23 rfl) rfl ?_
    refine ev_iload (ea_at dt_X11_lasts 24 rfl) rfl ?_
    refine ev_aload_n (ea_at dt_X11_lasts 25 rfl) rfl ?_
    refine ev_getR (ea_at dt_X11_lasts 26 rfl) fl_X11_23 sh_0 rfl ?_
    refine ev_getR (ea_at dt_X11_lasts 27 rfl) fl_X11_169 sh_2 rfl ?_
    refine ev_iload_n (ea_at dt_X11_lasts 28 rfl) rfl ?_
    refine ev_iaload (ea_at dt_X11_lasts 29 rfl) sh_7 (by decide) ?_
    refine ev_i (fun x9 => ?_)
    refine ev_imul (ea_at dt_X11_lasts 30 rfl) ?_
    refine ev_iadd (ea_at dt_X11_lasts 31 rfl) ?_
    refine ev_i (fun x10 => ?_)
    refine ev_iload_n (ea_at dt_X11_lasts 32 rfl) rfl ?_
    refine ev_icmp_lt (tgt := 64) (ea_at dt_X11_lasts 33 rfl) rfl (fun _ => ?_) (fun _ => ?_)
    · refine ev_iinc (ls' := [some (.ref 0), none, some (.int p2), some (.int p3), some (.int r8), some (.int (s35.1 + 1))]) (ea_at dt_X11_lasts 36 rfl) rfl (congrArg (fun z => _ + z) ic_1) (ea_lt rfl) rfl ?_
      refine ev_goto (tgt := 35) (ea_at dt_X11_lasts 37 rfl) rfl ?_
      exact ev_leaf (fun h => ea_drop (l' := [some (.ref 0), none, some (.int p2), some (.int p3), some (.int r8), some (.int (s35.1 + 1))]) ⟨Or.inr rfl, Or.inl rfl, Or.inr rfl, Or.inr rfl, Or.inr rfl, Or.inr rfl, trivial⟩ (hC (s35.1 + 1, s35.2) h))
    · refine ev_iload (ea_at dt_X11_lasts 34 rfl) rfl ?_
      exact ev_iret (ea_at dt_X11_lasts 35 rfl) rfl ⟨by decide, by decide⟩ (fun h => hR _ h)
set_option maxHeartbeats 300000 in
theorem ok_X11_lasts (G : ea_G) (p1 : Int32) (p2 : Int32) (p3 : Int32) (m : ea_M)  (zZ : ea_O) (hZ : f_X11_lasts p1 p2 p3 m = some zZ) : ea_Met G yX11_lasts F_X11_lasts [.ref 0, .int p1, .int p2, .int p3] m zZ := by
  refine ea_met (F := F_X11_lasts) (by decide +kernel) rfl rfl (Nat.le_of_ble_eq_true rfl) (by simp only [List.mem_cons, List.not_mem_nil, or_false]; intro v hv; rcases hv with rfl | rfl | rfl | rfl <;> rfl) ((?_ : ea_E G F_X11_lasts zZ 0 [some (.ref 0), some (.int p1), some (.int p2), some (.int p3), none, none] [] m 0 0 (f_X11_lasts p1 p2 p3 m) (fun t => t = zZ)) zZ hZ rfl)
  have hR : ∀ t : ea_O, t = zZ → zZ = t := fun t h => h.symm
  unfold f_X11_lasts
  refine ev_aload_n (ea_at dt_X11_lasts 0 rfl) rfl ?_
  refine ev_iload_n (ea_at dt_X11_lasts 1 rfl) rfl ?_
  refine ev_cxU (F1 := F_X11_needCounsel) rfl (fun zY hY => ea_runV (As := [.int p1]) (ea_at dt_X11_lasts 2 rfl) ml_X11_177 mv_X11_needCounsel (ok_X11_needCounsel G p1 m  zY hY) sh_0 rfl rfl rfl (Nat.le_of_ble_eq_true rfl) rfl) rfl ⟨by decide, by decide⟩ (fun kx mx t e q => ⟨0, by cases e; exact hR _ q⟩) (fun r2 m1 => ?_)
  refine ev_aload_n (ea_at dt_X11_lasts 3 rfl) rfl ?_
  refine ev_iload_n (ea_at dt_X11_lasts 4 rfl) rfl ?_
  refine ev_cxU (F1 := F_X11_needBird) rfl (fun zY hY => ea_runV (As := [.int p2]) (ea_at dt_X11_lasts 5 rfl) ml_X11_157 mv_X11_needBird (ok_X11_needBird G p2 m1  zY hY) sh_0 rfl rfl rfl (Nat.le_of_ble_eq_true rfl) rfl) rfl ⟨by decide, by decide⟩ (fun kx mx t e q => ⟨0, by cases e; exact hR _ q⟩) (fun r4 m3 => ?_)
  refine ev_aload_n (ea_at dt_X11_lasts 6 rfl) rfl ?_
  refine ev_iload_n (ea_at dt_X11_lasts 7 rfl) rfl ?_
  refine ev_iconst (ea_at dt_X11_lasts 8 rfl) ic_1 ?_
  refine ev_bipush (ea_at dt_X11_lasts 9 rfl) bp_99 ?_
  refine ev_cxU (F1 := F_X11_needWithin) rfl (fun zY hY => ea_runV (As := [.int p3, .int 1, .int 99]) (ea_at dt_X11_lasts 10 rfl) ml_X11_219 mv_X11_needWithin (ok_X11_needWithin G p3 1 99 m3  zY hY) sh_0 rfl rfl rfl (Nat.le_of_ble_eq_true rfl) rfl) rfl ⟨by decide, by decide⟩ (fun kx mx t e q => ⟨0, by cases e; exact hR _ q⟩) (fun r6 m5 => ?_)
  refine ev_aload_n (ea_at dt_X11_lasts 11 rfl) rfl ?_
  refine ev_getR (ea_at dt_X11_lasts 12 rfl) fl_X11_23 sh_0 rfl ?_
  refine ev_getR (ea_at dt_X11_lasts 13 rfl) fl_X11_180 sh_2 rfl ?_
  refine ev_iload_n (ea_at dt_X11_lasts 14 rfl) rfl ?_
  refine ev_iload_n (ea_at dt_X11_lasts 15 rfl) rfl ?_
  refine ev_clI (F1 := F_X1_held) (fun rY mY hY => ea_runV (As := [.int p1, .int p2]) (ea_at dt_X11_lasts 16 rfl) ml_X11_184 mv_X1_held (ok_X1_held G 8 p1 p2 m5 is_Bench_8 rY mY hY) sh_8 rfl rfl rfl (Nat.le_of_ble_eq_true rfl) rfl) rfl (fun r8 m7 => ?_)
  refine ev_istore (ls' := [some (.ref 0), some (.int p1), some (.int p2), some (.int p3), some (.int r8), none]) (ea_at dt_X11_lasts 17 rfl) (ea_lt rfl) rfl ?_
  refine ev_iconst (ea_at dt_X11_lasts 18 rfl) ic_0 ?_
  refine ev_istore (ls' := [some (.ref 0), some (.int p1), some (.int p2), some (.int p3), some (.int r8), some (.int 0)]) (ea_at dt_X11_lasts 19 rfl) (ea_lt rfl) rfl ?_
  refine ev_drop (l' := [some (.ref 0), none, some (.int p2), some (.int p3), some (.int r8), some (.int 0)]) ⟨Or.inr rfl, Or.inl rfl, Or.inr rfl, Or.inr rfl, Or.inr rfl, Or.inr rfl, trivial⟩ ?_
  refine ev_sl (lp_X11_lasts_35 G p2 p3 r8  (fun t h => by obtain ⟨t1, e1, q1⟩ := h; cases e1; exact hR t q1) (fun x35s h => ?_) ea_fuel (0, m7))
  obtain ⟨t1, e1, q1⟩ := h
  refine (?_ : ea_E G F_X11_lasts zZ 70 [none, none, none, none, none, none] [] x35s 3 18 _ (fun t => t = zZ)) t1 e1 q1
  refine ev_iconst (ea_at dt_X11_lasts 38 rfl) ic_m1 ?_
  exact ev_iret (ea_at dt_X11_lasts 39 rfl) rfl ⟨by decide, by decide⟩ (fun h => hR _ h)
def F_X11_rich : ea_F := (ea_rm 9 0 0, cX11_rich, RX11, some .int, 6, [], 0, 0)
def D_X11_rich : List (Nat × Instr × Nat) := [(0, .iconst (-1), 1), (1, .istore_n 1, 1), (2, .iconst (-1), 1), (3, .istore_n 2, 1), (4, .iconst 0, 1), (5, .istore_n 3, 1), (6, .iload_n 3, 1), (7, .aload_n 0, 1), (8, .getfield 23, 3), (11, .getfield 180, 3), (14, .getfield 236, 3), (17, .if_icmp .ge 62, 3), (20, .iconst 0, 1), (21, .istore 4, 2), (23, .iconst 0, 1), (24, .istore 5, 2), (26, .iload 5, 2), (28, .aload_n 0, 1), (29, .getfield 23, 3), (32, .getfield 233, 3), (35, .if_icmp .ge 27, 3), (38, .iload 4, 2), (40, .aload_n 0, 1), (41, .getfield 23, 3), (44, .getfield 180, 3), (47, .iload_n 3, 1), (48, .iload 5, 2), (50, .invokevirtual 184, 3), (53, .iadd, 1), (54, .istore 4, 2), (56, .iinc 5 1, 3), (59, .goto (-33), 3), (62, .iload 4, 2), (64, .iload_n 1, 1), (65, .if_icmp .le 8, 3), (68, .iload 4, 2), (70, .istore_n 1, 1), (71, .iload_n 3, 1), (72, .istore_n 2, 1), (73, .iinc 3 1, 3), (76, .goto (-70), 3), (79, .iload_n 2, 1), (80, .ireturn, 1)]
theorem dt_X11_rich : ∀ q ∈ D_X11_rich, decode cX11_rich q.1 = .ok q.2 := by decide +kernel
theorem mv_X11_rich : ea_MV yX11_rich (F_X11_rich) 0 := ⟨⟨List.mem_append_right _ (List.mem_of_getElem? (i := 1) (by decide +kernel)), List.mem_append_right _ (List.mem_of_getElem? (i := 575) (by decide +kernel)), ⟨by decide, by decide⟩, by decide +kernel⟩, List.mem_append_right _ (List.mem_of_getElem? (i := 573) (by decide +kernel)), List.mem_append_right _ (List.mem_of_getElem? (i := 574) (by decide +kernel))⟩
def f_X11_rich_s26 (s6 : Int32 × Int32 × Int32 × ea_M)  (s26 : Int32 × Int32 × ea_M) : Option ((Int32 × Int32 × ea_M) ⊕ (Int32 × ea_M)) :=
  ea_bd (s26.2.2 2 8) fun x2 =>
  if x2 ≤ s26.2.1 then
  some (.inr (s26.1, s26.2.2))
  else
  ea_cl (f_X1_held 8 s6.2.2.1 s26.2.1 s26.2.2) fun r4 m3 =>
  ea_bd (s26.1 + r4) fun x5 =>
  some (.inl (x5, s26.2.1 + 1, m3))
def f_X11_rich_j73 (x6 : Int32) (x7 : Int32) (x8 : Int32) (m9 : ea_M) : Option ((Int32 × Int32 × Int32 × ea_M) ⊕ (Int32 × ea_M)) :=
  some (.inl (x6, x7, x8 + 1, m9))
def f_X11_rich_s6  (s6 : Int32 × Int32 × Int32 × ea_M) : Option ((Int32 × Int32 × Int32 × ea_M) ⊕ (Int32 × ea_M)) :=
  ea_bd (s6.2.2.2 8 0) fun x1 =>
  if x1 ≤ s6.2.2.1 then
  some (.inr (s6.2.1, s6.2.2.2))
  else
  (ea_loop (f_X11_rich_s26 s6) ea_fuel (0, 0, s6.2.2.2)).bind (fun x26s =>
  if x26s.1 ≤ s6.1 then
  f_X11_rich_j73 s6.1 s6.2.1 s6.2.2.1 x26s.2
  else
  f_X11_rich_j73 x26s.1 s6.2.2.1 s6.2.2.1 x26s.2)
def f_X11_rich (m : ea_M) : Option (Int32 × ea_M) :=
  (ea_loop f_X11_rich_s6 ea_fuel ((-1), (-1), 0, m)).bind (fun x6s =>
  some (x6s.1, x6s.2))
set_option maxHeartbeats 300000 in
theorem lp_X11_rich_26 (G : ea_G) {res : ea_O}  (s6 : Int32 × Int32 × Int32 × ea_M)  {Ψ : (Int32 × ea_M) → Prop} (hX : ∀ x26s : Int32 × ea_M, Ψ x26s → ea_Ev G F_X11_rich res 62 [some (.ref 0), some (.int s6.1), some (.int s6.2.1), some (.int s6.2.2.1), some (.int x26s.1), none] [] x26s.2 0 0) : ∀ (f : Nat) (s26 : Int32 × Int32 × ea_M), ea_E G F_X11_rich res 26 [some (.ref 0), some (.int s6.1), some (.int s6.2.1), some (.int s6.2.2.1), some (.int s26.1), some (.int s26.2.1)] [] s26.2.2 0 0 (ea_loop (f_X11_rich_s26 s6) f s26) Ψ := by
  refine ev_loop (G := G) (F := F_X11_rich) (res := res) (pc := 26) (st := []) (k := 0) (n := 0) (step := (f_X11_rich_s26 s6)) (Ψ := Ψ) (fun (s26 : Int32 × Int32 × ea_M) => [some (.ref 0), some (.int s6.1), some (.int s6.2.1), some (.int s6.2.2.1), some (.int s26.1), some (.int s26.2.1)]) (fun (s26 : Int32 × Int32 × ea_M) => s26.2.2) (fun s26 => ?_)
  have hC : ∀ s26 : Int32 × Int32 × ea_M, (Sum.elim (fun s26 : Int32 × Int32 × ea_M => ea_Ev G F_X11_rich res 26 [some (.ref 0), some (.int s6.1), some (.int s6.2.1), some (.int s6.2.2.1), some (.int s26.1), some (.int s26.2.1)] [] s26.2.2 0 0) Ψ) (.inl s26) → ea_Ev G F_X11_rich res 26 [some (.ref 0), some (.int s6.1), some (.int s6.2.1), some (.int s6.2.2.1), some (.int s26.1), some (.int s26.2.1)] [] s26.2.2 0 0 := fun _ h => h
  have hX : ∀ x26s : Int32 × ea_M, (Sum.elim (fun s26 : Int32 × Int32 × ea_M => ea_Ev G F_X11_rich res 26 [some (.ref 0), some (.int s6.1), some (.int s6.2.1), some (.int s6.2.2.1), some (.int s26.1), some (.int s26.2.1)] [] s26.2.2 0 0) Ψ) (.inr x26s) → ea_Ev G F_X11_rich res 62 [some (.ref 0), some (.int s6.1), some (.int s6.2.1), some (.int s6.2.2.1), some (.int x26s.1), none] [] x26s.2 0 0 := hX
  unfold f_X11_rich_s26
  refine ev_iload (ea_at dt_X11_rich 16 rfl) rfl ?_
  refine ev_aload_n (ea_at dt_X11_rich 17 rfl) rfl ?_
  refine ev_getR (ea_at dt_X11_rich 18 rfl) fl_X11_23 sh_0 rfl ?_
  refine ev_getI (ea_at dt_X11_rich 19 rfl) fl_X11_233 sh_2 rfl ?_
  refine ev_i (fun x2 => ?_)
  refine ev_icmp_ge (tgt := 62) (ea_at dt_X11_rich 20 rfl) rfl (fun _ => ?_) (fun _ => ?_)
  · exact ev_leaf (fun h => ea_drop (l' := [some (.ref 0), some (.int s6.1), some (.int s6.2.1), some (.int s6.2.2.1), some (.int s26.1), none]) ⟨Or.inr rfl, Or.inr rfl, Or.inr rfl, Or.inr rfl, Or.inr rfl, Or.inl rfl, trivial⟩ (hX (s26.1, s26.2.2) h))
  · refine ev_iload (ea_at dt_X11_rich 21 rfl) rfl ?_
    refine ev_aload_n (ea_at dt_X11_rich 22 rfl) rfl ?_
    refine ev_getR (ea_at dt_X11_rich 23 rfl) fl_X11_23 sh_0 rfl ?_
    refine ev_getR (ea_at dt_X11_rich 24 rfl) fl_X11_180 sh_2 rfl ?_
    refine ev_iload_n (ea_at dt_X11_rich 25 rfl) rfl ?_
    refine ev_iload (ea_at dt_X11_rich 26 rfl) rfl ?_
    refine ev_clI (F1 := F_X1_held) (fun rY mY hY => ea_runV (As := [.int s6.2.2.1, .int s26.2.1]) (ea_at dt_X11_rich 27 rfl) ml_X11_184 mv_X1_held (ok_X1_held G 8 s6.2.2.1 s26.2.1 s26.2.2 is_Bench_8 rY mY hY) sh_8 rfl rfl rfl (Nat.le_of_ble_eq_true rfl) rfl) rfl (fun r4 m3 => ?_)
    refine ev_iadd (ea_at dt_X11_rich 28 rfl) ?_
    refine ev_i (fun x5 => ?_)
    refine ev_istore (ls' := [some (.ref 0), some (.int s6.1), some (.int s6.2.1), some (.int s6.2.2.1), some (.int x5), some (.int s26.2.1)]) (ea_at dt_X11_rich 29 rfl) (ea_lt rfl) rfl ?_
    refine ev_iinc (ls' := [some (.ref 0), some (.int s6.1), some (.int s6.2.1), some (.int s6.2.2.1), some (.int x5), some (.int (s26.2.1 + 1))]) (ea_at dt_X11_rich 30 rfl) rfl (congrArg (fun z => _ + z) ic_1) (ea_lt rfl) rfl ?_
    refine ev_goto (tgt := 26) (ea_at dt_X11_rich 31 rfl) rfl ?_
    exact ev_leaf (fun h => ea_drop (l' := [some (.ref 0), some (.int s6.1), some (.int s6.2.1), some (.int s6.2.2.1), some (.int x5), some (.int (s26.2.1 + 1))]) ⟨Or.inr rfl, Or.inr rfl, Or.inr rfl, Or.inr rfl, Or.inr rfl, Or.inr rfl, trivial⟩ (hC (x5, s26.2.1 + 1, m3) h))
set_option maxHeartbeats 300000 in
theorem jn_X11_rich_73 (G : ea_G) {res : ea_O}  (x6 : Int32) (x7 : Int32) (x8 : Int32) (m9 : ea_M)  {Φ : ((Int32 × Int32 × Int32 × ea_M) ⊕ (Int32 × ea_M)) → Prop} (hC : ∀ s6 : Int32 × Int32 × Int32 × ea_M, Φ (.inl s6) → ea_Ev G F_X11_rich res 6 [some (.ref 0), some (.int s6.1), some (.int s6.2.1), some (.int s6.2.2.1), none, none] [] s6.2.2.2 0 0) (hX : ∀ x6s : Int32 × ea_M, Φ (.inr x6s) → ea_Ev G F_X11_rich res 79 [none, none, some (.int x6s.1), none, none, none] [] x6s.2 0 0) : ea_E G F_X11_rich res 73 [some (.ref 0), some (.int x6), some (.int x7), some (.int x8), none, none] [] m9 0 0 (f_X11_rich_j73 x6 x7 x8 m9) Φ := by
  unfold f_X11_rich_j73
  refine ev_iinc (ls' := [some (.ref 0), some (.int x6), some (.int x7), some (.int (x8 + 1)), none, none]) (ea_at dt_X11_rich 39 rfl) rfl (congrArg (fun z => _ + z) ic_1) (ea_lt rfl) rfl ?_
  refine ev_goto (tgt := 6) (ea_at dt_X11_rich 40 rfl) rfl ?_
  exact ev_leaf (fun h => ea_drop (l' := [some (.ref 0), some (.int x6), some (.int x7), some (.int (x8 + 1)), none, none]) ⟨Or.inr rfl, Or.inr rfl, Or.inr rfl, Or.inr rfl, Or.inl rfl, Or.inl rfl, trivial⟩ (hC (x6, x7, x8 + 1, m9) h))
set_option maxHeartbeats 300000 in
theorem lp_X11_rich_6 (G : ea_G) {res : ea_O}    {Ψ : (Int32 × ea_M) → Prop} (hX : ∀ x6s : Int32 × ea_M, Ψ x6s → ea_Ev G F_X11_rich res 79 [none, none, some (.int x6s.1), none, none, none] [] x6s.2 0 0) : ∀ (f : Nat) (s6 : Int32 × Int32 × Int32 × ea_M), ea_E G F_X11_rich res 6 [some (.ref 0), some (.int s6.1), some (.int s6.2.1), some (.int s6.2.2.1), none, none] [] s6.2.2.2 0 0 (ea_loop f_X11_rich_s6 f s6) Ψ := by
  refine ev_loop (G := G) (F := F_X11_rich) (res := res) (pc := 6) (st := []) (k := 0) (n := 0) (step := f_X11_rich_s6) (Ψ := Ψ) (fun (s6 : Int32 × Int32 × Int32 × ea_M) => [some (.ref 0), some (.int s6.1), some (.int s6.2.1), some (.int s6.2.2.1), none, none]) (fun (s6 : Int32 × Int32 × Int32 × ea_M) => s6.2.2.2) (fun s6 => ?_)
  have hC : ∀ s6 : Int32 × Int32 × Int32 × ea_M, (Sum.elim (fun s6 : Int32 × Int32 × Int32 × ea_M => ea_Ev G F_X11_rich res 6 [some (.ref 0), some (.int s6.1), some (.int s6.2.1), some (.int s6.2.2.1), none, none] [] s6.2.2.2 0 0) Ψ) (.inl s6) → ea_Ev G F_X11_rich res 6 [some (.ref 0), some (.int s6.1), some (.int s6.2.1), some (.int s6.2.2.1), none, none] [] s6.2.2.2 0 0 := fun _ h => h
  have hX : ∀ x6s : Int32 × ea_M, (Sum.elim (fun s6 : Int32 × Int32 × Int32 × ea_M => ea_Ev G F_X11_rich res 6 [some (.ref 0), some (.int s6.1), some (.int s6.2.1), some (.int s6.2.2.1), none, none] [] s6.2.2.2 0 0) Ψ) (.inr x6s) → ea_Ev G F_X11_rich res 79 [none, none, some (.int x6s.1), none, none, none] [] x6s.2 0 0 := hX
  unfold f_X11_rich_s6
  refine ev_iload_n (ea_at dt_X11_rich 6 rfl) rfl ?_
  refine ev_aload_n (ea_at dt_X11_rich 7 rfl) rfl ?_
  refine ev_getR (ea_at dt_X11_rich 8 rfl) fl_X11_23 sh_0 rfl ?_
  refine ev_getR (ea_at dt_X11_rich 9 rfl) fl_X11_180 sh_2 rfl ?_
  refine ev_getI (ea_at dt_X11_rich 10 rfl) fl_X11_236 sh_8 rfl ?_
  refine ev_i (fun x1 => ?_)
  refine ev_icmp_ge (tgt := 79) (ea_at dt_X11_rich 11 rfl) rfl (fun _ => ?_) (fun _ => ?_)
  · exact ev_leaf (fun h => ea_drop (l' := [none, none, some (.int s6.2.1), none, none, none]) ⟨Or.inl rfl, Or.inl rfl, Or.inr rfl, Or.inl rfl, Or.inl rfl, Or.inl rfl, trivial⟩ (hX (s6.2.1, s6.2.2.2) h))
  · refine ev_iconst (ea_at dt_X11_rich 12 rfl) ic_0 ?_
    refine ev_istore (ls' := [some (.ref 0), some (.int s6.1), some (.int s6.2.1), some (.int s6.2.2.1), some (.int 0), none]) (ea_at dt_X11_rich 13 rfl) (ea_lt rfl) rfl ?_
    refine ev_iconst (ea_at dt_X11_rich 14 rfl) ic_0 ?_
    refine ev_istore (ls' := [some (.ref 0), some (.int s6.1), some (.int s6.2.1), some (.int s6.2.2.1), some (.int 0), some (.int 0)]) (ea_at dt_X11_rich 15 rfl) (ea_lt rfl) rfl ?_
    refine ev_drop (l' := [some (.ref 0), some (.int s6.1), some (.int s6.2.1), some (.int s6.2.2.1), some (.int 0), some (.int 0)]) ⟨Or.inr rfl, Or.inr rfl, Or.inr rfl, Or.inr rfl, Or.inr rfl, Or.inr rfl, trivial⟩ ?_
    refine ev_bind (lp_X11_rich_26 G s6   (fun x26s h => ?_) ea_fuel (0, 0, s6.2.2.2))
    obtain ⟨t1, e1, q1⟩ := h
    refine (?_ : ea_E G F_X11_rich res 62 [some (.ref 0), some (.int s6.1), some (.int s6.2.1), some (.int s6.2.2.1), some (.int x26s.1), none] [] x26s.2 0 0 _ (Sum.elim (fun s6 : Int32 × Int32 × Int32 × ea_M => ea_Ev G F_X11_rich res 6 [some (.ref 0), some (.int s6.1), some (.int s6.2.1), some (.int s6.2.2.1), none, none] [] s6.2.2.2 0 0) Ψ)) t1 e1 q1
    refine ev_iload (ea_at dt_X11_rich 32 rfl) rfl ?_
    refine ev_iload_n (ea_at dt_X11_rich 33 rfl) rfl ?_
    refine ev_icmp_le (tgt := 73) (ea_at dt_X11_rich 34 rfl) rfl (fun _ => ?_) (fun _ => ?_)
    · exact ev_drop (l' := [some (.ref 0), some (.int s6.1), some (.int s6.2.1), some (.int s6.2.2.1), none, none]) ⟨Or.inr rfl, Or.inr rfl, Or.inr rfl, Or.inr rfl, Or.inl rfl, Or.inl rfl, trivial⟩ (jn_X11_rich_73 G s6.1 s6.2.1 s6.2.2.1 x26s.2  hC hX)
    · refine ev_iload (ea_at dt_X11_rich 35 rfl) rfl ?_
      refine ev_istore_n (ls' := [some (.ref 0), some (.int x26s.1), some (.int s6.2.1), some (.int s6.2.2.1), some (.int x26s.1), none]) (ea_at dt_X11_rich 36 rfl) (ea_lt rfl) rfl ?_
      refine ev_iload_n (ea_at dt_X11_rich 37 rfl) rfl ?_
      refine ev_istore_n (ls' := [some (.ref 0), some (.int x26s.1), some (.int s6.2.2.1), some (.int s6.2.2.1), some (.int x26s.1), none]) (ea_at dt_X11_rich 38 rfl) (ea_lt rfl) rfl ?_
      exact ev_drop (l' := [some (.ref 0), some (.int x26s.1), some (.int s6.2.2.1), some (.int s6.2.2.1), none, none]) ⟨Or.inr rfl, Or.inr rfl, Or.inr rfl, Or.inr rfl, Or.inl rfl, Or.inl rfl, trivial⟩ (jn_X11_rich_73 G x26s.1 s6.2.2.1 s6.2.2.1 x26s.2  hC hX)
set_option maxHeartbeats 300000 in
theorem ok_X11_rich (G : ea_G) (m : ea_M)  (rZ : Int32) (mZ : ea_M) (hZ : f_X11_rich m = some (rZ, mZ)) : ea_Met G yX11_rich F_X11_rich [.ref 0] m (0, rZ, mZ) := by
  refine ea_met (F := F_X11_rich) (by decide +kernel) rfl rfl (Nat.le_of_ble_eq_true rfl) (by simp only [List.mem_cons, List.not_mem_nil, or_false]; intro v hv; rcases hv with rfl <;> rfl) ((?_ : ea_E G F_X11_rich (0, rZ, mZ) 0 [some (.ref 0), none, none, none, none, none] [] m 0 0 (f_X11_rich m) (fun t => t = (rZ, mZ))) (rZ, mZ) hZ rfl)
  have hR : ∀ t : Int32 × ea_M, t = (rZ, mZ) → ((0, rZ, mZ) : ea_O) = (0, t) := fun t h => by rw [h]
  unfold f_X11_rich
  refine ev_iconst (ea_at dt_X11_rich 0 rfl) ic_m1 ?_
  refine ev_istore_n (ls' := [some (.ref 0), some (.int (-1)), none, none, none, none]) (ea_at dt_X11_rich 1 rfl) (ea_lt rfl) rfl ?_
  refine ev_iconst (ea_at dt_X11_rich 2 rfl) ic_m1 ?_
  refine ev_istore_n (ls' := [some (.ref 0), some (.int (-1)), some (.int (-1)), none, none, none]) (ea_at dt_X11_rich 3 rfl) (ea_lt rfl) rfl ?_
  refine ev_iconst (ea_at dt_X11_rich 4 rfl) ic_0 ?_
  refine ev_istore_n (ls' := [some (.ref 0), some (.int (-1)), some (.int (-1)), some (.int 0), none, none]) (ea_at dt_X11_rich 5 rfl) (ea_lt rfl) rfl ?_
  refine ev_drop (l' := [some (.ref 0), some (.int (-1)), some (.int (-1)), some (.int 0), none, none]) ⟨Or.inr rfl, Or.inr rfl, Or.inr rfl, Or.inr rfl, Or.inl rfl, Or.inl rfl, trivial⟩ ?_
  refine ev_bind (lp_X11_rich_6 G   (fun x6s h => ?_) ea_fuel ((-1), (-1), 0, m))
  obtain ⟨t1, e1, q1⟩ := h
  refine (?_ : ea_E G F_X11_rich (0, rZ, mZ) 79 [none, none, some (.int x6s.1), none, none, none] [] x6s.2 0 0 _ (fun t => t = (rZ, mZ))) t1 e1 q1
  refine ev_iload_n (ea_at dt_X11_rich 41 rfl) rfl ?_
  exact ev_iret (ea_at dt_X11_rich 42 rfl) rfl ⟨by decide, by decide⟩ (fun h => hR _ h)
def F_X11_won : ea_F := (ea_rm 9 1 6, cX11_won, RX11, some .int, 8, [], 1, 6)
def D_X11_won : List (Nat × Instr × Nat) := [(0, .aload_n 0, 1), (1, .iload_n 1, 1), (2, .invokevirtual 177, 3), (5, .aload_n 0, 1), (6, .getfield 23, 3), (9, .getfield 180, 3), (12, .astore_n 3, 1), (13, .iload_n 2, 1), (14, .ifCond .eq 7, 3), (17, .iconst 2, 1), (18, .goto 4, 3), (21, .iconst 1, 1), (22, .istore 4, 2), (24, .iload_n 2, 1), (25, .ifCond .eq 7, 3), (28, .iconst 1, 1), (29, .goto 4, 3), (32, .iconst 2, 1), (33, .istore 5, 2), (35, .iconst 0, 1), (36, .istore 6, 2), (38, .iconst 0, 1), (39, .istore 7, 2), (41, .iload 7, 2), (43, .aload_n 3, 1), (44, .getfield 239, 3), (47, .if_icmp .ge 58, 3), (50, .aload_n 3, 1), (51, .getfield 193, 3), (54, .iload 7, 2), (56, .iaload, 1), (57, .iload_n 1, 1), (58, .if_icmp .ne 15, 3), (61, .aload_n 3, 1), (62, .getfield 202, 3), (65, .iload 7, 2), (67, .iaload, 1), (68, .iload 4, 2), (70, .if_icmp .eq 26, 3), (73, .aload_n 3, 1), (74, .getfield 196, 3), (77, .iload 7, 2), (79, .iaload, 1), (80, .iload_n 1, 1), (81, .if_icmp .ne 18, 3), (84, .aload_n 3, 1), (85, .getfield 202, 3), (88, .iload 7, 2), (90, .iaload, 1), (91, .iload 5, 2), (93, .if_icmp .ne 6, 3), (96, .iinc 6 1, 3), (99, .iinc 7 1, 3), (102, .goto (-61), 3), (105, .iload 6, 2), (107, .ireturn, 1)]
theorem dt_X11_won : ∀ q ∈ D_X11_won, decode cX11_won q.1 = .ok q.2 := by decide +kernel
theorem mv_X11_won : ea_MV yX11_won (F_X11_won) 2 := ⟨⟨List.mem_append_right _ (List.mem_of_getElem? (i := 1) (by decide +kernel)), List.mem_append_right _ (List.mem_of_getElem? (i := 1348) (by decide +kernel)), ⟨by decide, by decide⟩, by decide +kernel⟩, List.mem_append_right _ (List.mem_of_getElem? (i := 1346) (by decide +kernel)), List.mem_append_right _ (List.mem_of_getElem? (i := 1347) (by decide +kernel))⟩
def f_X11_won_j99 (p1 : Int32) (x5 : Int32) (x6 : Int32) (x14 : Int32) (x15 : Int32) (m16 : ea_M) : Option ((Int32 × Int32 × ea_M) ⊕ (Int32 × ea_M)) :=
  some (.inl (x14, x15 + 1, m16))
def f_X11_won_j96 (p1 : Int32) (x5 : Int32) (x6 : Int32) (x11 : Int32) (x12 : Int32) (m13 : ea_M) : Option ((Int32 × Int32 × ea_M) ⊕ (Int32 × ea_M)) :=
  f_X11_won_j99 p1 x5 x6 (x11 + 1) x12 m13
def f_X11_won_j73 (p1 : Int32) (x5 : Int32) (x6 : Int32) (x17 : Int32) (x18 : Int32) (m19 : ea_M) : Option ((Int32 × Int32 × ea_M) ⊕ (Int32 × ea_M)) :=
  ea_g x18 12 (ea_bd (m19 11 (Int32.toNatClampNeg x18)) fun x20 =>
  if x20 = p1 then
  ea_g x18 12 (ea_bd (m19 13 (Int32.toNatClampNeg x18)) fun x21 =>
  if x21 = x6 then
  f_X11_won_j96 p1 x5 x6 x17 x18 m19
  else
  f_X11_won_j99 p1 x5 x6 x17 x18 m19)
  else
  f_X11_won_j99 p1 x5 x6 x17 x18 m19)
def f_X11_won_s41 (p1 : Int32) (x5 : Int32) (x6 : Int32)  (s41 : Int32 × Int32 × ea_M) : Option ((Int32 × Int32 × ea_M) ⊕ (Int32 × ea_M)) :=
  ea_bd (s41.2.2 8 1) fun x8 =>
  if x8 ≤ s41.2.1 then
  some (.inr (s41.1, s41.2.2))
  else
  ea_g s41.2.1 12 (ea_bd (s41.2.2 10 (Int32.toNatClampNeg s41.2.1)) fun x9 =>
  if x9 = p1 then
  ea_g s41.2.1 12 (ea_bd (s41.2.2 13 (Int32.toNatClampNeg s41.2.1)) fun x10 =>
  if x10 = x5 then
  f_X11_won_j96 p1 x5 x6 s41.1 s41.2.1 s41.2.2
  else
  f_X11_won_j73 p1 x5 x6 s41.1 s41.2.1 s41.2.2)
  else
  f_X11_won_j73 p1 x5 x6 s41.1 s41.2.1 s41.2.2)
def f_X11_won_j33 (p1 : Int32) (x5 : Int32) (x6 : Int32) (m7 : ea_M) : Option (ea_O) :=
  (ea_loop (f_X11_won_s41 p1 x5 x6) ea_fuel (0, 0, m7)).bind (fun x41s =>
  some (0, x41s.1, x41s.2))
def f_X11_won_j22 (p1 : Int32) (p2 : Int32) (x3 : Int32) (m4 : ea_M) : Option (ea_O) :=
  if p2 = 0 then
  f_X11_won_j33 p1 x3 2 m4
  else
  f_X11_won_j33 p1 x3 1 m4
def f_X11_won (p1 : Int32) (p2 : Int32) (m : ea_M) : Option (ea_O) :=
  ea_cx (f_X11_needCounsel p1 m) (fun r2 m1 =>
  if p2 = 0 then
  f_X11_won_j22 p1 p2 1 m1
  else
  f_X11_won_j22 p1 p2 2 m1) (fun kx mx => some (kx, 0, mx))
set_option maxHeartbeats 300000 in
theorem jn_X11_won_99 (G : ea_G) {res : ea_O}  (p1 : Int32) (x5 : Int32) (x6 : Int32) (x14 : Int32) (x15 : Int32) (m16 : ea_M)  {Φ : ((Int32 × Int32 × ea_M) ⊕ (Int32 × ea_M)) → Prop} (hC : ∀ s41 : Int32 × Int32 × ea_M, Φ (.inl s41) → ea_Ev G F_X11_won res 41 [none, some (.int p1), none, some (.ref 8), some (.int x5), some (.int x6), some (.int s41.1), some (.int s41.2.1)] [] s41.2.2 1 6) (hX : ∀ x41s : Int32 × ea_M, Φ (.inr x41s) → ea_Ev G F_X11_won res 105 [none, none, none, none, none, none, some (.int x41s.1), none] [] x41s.2 1 6) : ea_E G F_X11_won res 99 [none, some (.int p1), none, some (.ref 8), some (.int x5), some (.int x6), some (.int x14), some (.int x15)] [] m16 1 6 (f_X11_won_j99 p1 x5 x6 x14 x15 m16) Φ := by
  unfold f_X11_won_j99
  refine ev_iinc (ls' := [none, some (.int p1), none, some (.ref 8), some (.int x5), some (.int x6), some (.int x14), some (.int (x15 + 1))]) (ea_at dt_X11_won 52 rfl) rfl (congrArg (fun z => _ + z) ic_1) (ea_lt rfl) rfl ?_
  refine ev_goto (tgt := 41) (ea_at dt_X11_won 53 rfl) rfl ?_
  exact ev_leaf (fun h => ea_drop (l' := [none, some (.int p1), none, some (.ref 8), some (.int x5), some (.int x6), some (.int x14), some (.int (x15 + 1))]) ⟨Or.inl rfl, Or.inr rfl, Or.inl rfl, Or.inr rfl, Or.inr rfl, Or.inr rfl, Or.inr rfl, Or.inr rfl, trivial⟩ (hC (x14, x15 + 1, m16) h))
set_option maxHeartbeats 300000 in
theorem jn_X11_won_96 (G : ea_G) {res : ea_O}  (p1 : Int32) (x5 : Int32) (x6 : Int32) (x11 : Int32) (x12 : Int32) (m13 : ea_M)  {Φ : ((Int32 × Int32 × ea_M) ⊕ (Int32 × ea_M)) → Prop} (hC : ∀ s41 : Int32 × Int32 × ea_M, Φ (.inl s41) → ea_Ev G F_X11_won res 41 [none, some (.int p1), none, some (.ref 8), some (.int x5), some (.int x6), some (.int s41.1), some (.int s41.2.1)] [] s41.2.2 1 6) (hX : ∀ x41s : Int32 × ea_M, Φ (.inr x41s) → ea_Ev G F_X11_won res 105 [none, none, none, none, none, none, some (.int x41s.1), none] [] x41s.2 1 6) : ea_E G F_X11_won res 96 [none, some (.int p1), none, some (.ref 8), some (.int x5), some (.int x6), some (.int x11), some (.int x12)] [] m13 1 6 (f_X11_won_j96 p1 x5 x6 x11 x12 m13) Φ := by
  unfold f_X11_won_j96
  refine ev_iinc (ls' := [none, some (.int p1), none, some (.ref 8), some (.int x5), some (.int x6), some (.int (x11 + 1)), some (.int x12)]) (ea_at dt_X11_won 51 rfl) rfl (congrArg (fun z => _ + z) ic_1) (ea_lt rfl) rfl ?_
  exact ev_drop (l' := [none, some (.int p1), none, some (.ref 8), some (.int x5), some (.int x6), some (.int (x11 + 1)), some (.int x12)]) ⟨Or.inl rfl, Or.inr rfl, Or.inl rfl, Or.inr rfl, Or.inr rfl, Or.inr rfl, Or.inr rfl, Or.inr rfl, trivial⟩ (jn_X11_won_99 G p1 x5 x6 (x11 + 1) x12 m13  hC hX)
set_option maxHeartbeats 300000 in
theorem jn_X11_won_73 (G : ea_G) {res : ea_O}  (p1 : Int32) (x5 : Int32) (x6 : Int32) (x17 : Int32) (x18 : Int32) (m19 : ea_M)  {Φ : ((Int32 × Int32 × ea_M) ⊕ (Int32 × ea_M)) → Prop} (hC : ∀ s41 : Int32 × Int32 × ea_M, Φ (.inl s41) → ea_Ev G F_X11_won res 41 [none, some (.int p1), none, some (.ref 8), some (.int x5), some (.int x6), some (.int s41.1), some (.int s41.2.1)] [] s41.2.2 1 6) (hX : ∀ x41s : Int32 × ea_M, Φ (.inr x41s) → ea_Ev G F_X11_won res 105 [none, none, none, none, none, none, some (.int x41s.1), none] [] x41s.2 1 6) : ea_E G F_X11_won res 73 [none, some (.int p1), none, some (.ref 8), some (.int x5), some (.int x6), some (.int x17), some (.int x18)] [] m19 1 6 (f_X11_won_j73 p1 x5 x6 x17 x18 m19) Φ := by
  unfold f_X11_won_j73
  refine ev_aload_n (ea_at dt_X11_won 39 rfl) rfl ?_
  refine ev_getR (ea_at dt_X11_won 40 rfl) fl_X11_196 sh_8 rfl ?_
  refine ev_iload (ea_at dt_X11_won 41 rfl) rfl ?_
  refine ev_iaload (ea_at dt_X11_won 42 rfl) sh_11 (by decide) ?_
  refine ev_i (fun x20 => ?_)
  refine ev_iload_n (ea_at dt_X11_won 43 rfl) rfl ?_
  refine ev_icmp_ne (tgt := 99) (ea_at dt_X11_won 44 rfl) rfl (fun _ => ?_) (fun _ => ?_)
  · refine ev_aload_n (ea_at dt_X11_won 45 rfl) rfl ?_
    refine ev_getR (ea_at dt_X11_won 46 rfl) fl_X11_202 sh_8 rfl ?_
    refine ev_iload (ea_at dt_X11_won 47 rfl) rfl ?_
    refine ev_iaload (ea_at dt_X11_won 48 rfl) sh_13 (by decide) ?_
    refine ev_i (fun x21 => ?_)
    refine ev_iload (ea_at dt_X11_won 49 rfl) rfl ?_
    refine ev_icmp_ne (tgt := 99) (ea_at dt_X11_won 50 rfl) rfl (fun _ => ?_) (fun _ => ?_)
    · exact ev_drop (l' := [none, some (.int p1), none, some (.ref 8), some (.int x5), some (.int x6), some (.int x17), some (.int x18)]) ⟨Or.inl rfl, Or.inr rfl, Or.inl rfl, Or.inr rfl, Or.inr rfl, Or.inr rfl, Or.inr rfl, Or.inr rfl, trivial⟩ (jn_X11_won_96 G p1 x5 x6 x17 x18 m19  hC hX)
    · exact ev_drop (l' := [none, some (.int p1), none, some (.ref 8), some (.int x5), some (.int x6), some (.int x17), some (.int x18)]) ⟨Or.inl rfl, Or.inr rfl, Or.inl rfl, Or.inr rfl, Or.inr rfl, Or.inr rfl, Or.inr rfl, Or.inr rfl, trivial⟩ (jn_X11_won_99 G p1 x5 x6 x17 x18 m19  hC hX)
  · exact ev_drop (l' := [none, some (.int p1), none, some (.ref 8), some (.int x5), some (.int x6), some (.int x17), some (.int x18)]) ⟨Or.inl rfl, Or.inr rfl, Or.inl rfl, Or.inr rfl, Or.inr rfl, Or.inr rfl, Or.inr rfl, Or.inr rfl, trivial⟩ (jn_X11_won_99 G p1 x5 x6 x17 x18 m19  hC hX)
set_option maxHeartbeats 300000 in
theorem lp_X11_won_41 (G : ea_G) {res : ea_O}  (p1 : Int32) (x5 : Int32) (x6 : Int32)  {Ψ : (Int32 × ea_M) → Prop} (hX : ∀ x41s : Int32 × ea_M, Ψ x41s → ea_Ev G F_X11_won res 105 [none, none, none, none, none, none, some (.int x41s.1), none] [] x41s.2 1 6) : ∀ (f : Nat) (s41 : Int32 × Int32 × ea_M), ea_E G F_X11_won res 41 [none, some (.int p1), none, some (.ref 8), some (.int x5), some (.int x6), some (.int s41.1), some (.int s41.2.1)] [] s41.2.2 1 6 (ea_loop (f_X11_won_s41 p1 x5 x6) f s41) Ψ := by
  refine ev_loop (G := G) (F := F_X11_won) (res := res) (pc := 41) (st := []) (k := 1) (n := 6) (step := (f_X11_won_s41 p1 x5 x6)) (Ψ := Ψ) (fun (s41 : Int32 × Int32 × ea_M) => [none, some (.int p1), none, some (.ref 8), some (.int x5), some (.int x6), some (.int s41.1), some (.int s41.2.1)]) (fun (s41 : Int32 × Int32 × ea_M) => s41.2.2) (fun s41 => ?_)
  have hC : ∀ s41 : Int32 × Int32 × ea_M, (Sum.elim (fun s41 : Int32 × Int32 × ea_M => ea_Ev G F_X11_won res 41 [none, some (.int p1), none, some (.ref 8), some (.int x5), some (.int x6), some (.int s41.1), some (.int s41.2.1)] [] s41.2.2 1 6) Ψ) (.inl s41) → ea_Ev G F_X11_won res 41 [none, some (.int p1), none, some (.ref 8), some (.int x5), some (.int x6), some (.int s41.1), some (.int s41.2.1)] [] s41.2.2 1 6 := fun _ h => h
  have hX : ∀ x41s : Int32 × ea_M, (Sum.elim (fun s41 : Int32 × Int32 × ea_M => ea_Ev G F_X11_won res 41 [none, some (.int p1), none, some (.ref 8), some (.int x5), some (.int x6), some (.int s41.1), some (.int s41.2.1)] [] s41.2.2 1 6) Ψ) (.inr x41s) → ea_Ev G F_X11_won res 105 [none, none, none, none, none, none, some (.int x41s.1), none] [] x41s.2 1 6 := hX
  unfold f_X11_won_s41
  refine ev_iload (ea_at dt_X11_won 23 rfl) rfl ?_
  refine ev_aload_n (ea_at dt_X11_won 24 rfl) rfl ?_
  refine ev_getI (ea_at dt_X11_won 25 rfl) fl_X11_239 sh_8 rfl ?_
  refine ev_i (fun x8 => ?_)
  refine ev_icmp_ge (tgt := 105) (ea_at dt_X11_won 26 rfl) rfl (fun _ => ?_) (fun _ => ?_)
  · exact ev_leaf (fun h => ea_drop (l' := [none, none, none, none, none, none, some (.int s41.1), none]) ⟨Or.inl rfl, Or.inl rfl, Or.inl rfl, Or.inl rfl, Or.inl rfl, Or.inl rfl, Or.inr rfl, Or.inl rfl, trivial⟩ (hX (s41.1, s41.2.2) h))
  · refine ev_aload_n (ea_at dt_X11_won 27 rfl) rfl ?_
    refine ev_getR (ea_at dt_X11_won 28 rfl) fl_X11_193 sh_8 rfl ?_
    refine ev_iload (ea_at dt_X11_won 29 rfl) rfl ?_
    refine ev_iaload (ea_at dt_X11_won 30 rfl) sh_10 (by decide) ?_
    refine ev_i (fun x9 => ?_)
    refine ev_iload_n (ea_at dt_X11_won 31 rfl) rfl ?_
    refine ev_icmp_ne (tgt := 73) (ea_at dt_X11_won 32 rfl) rfl (fun _ => ?_) (fun _ => ?_)
    · refine ev_aload_n (ea_at dt_X11_won 33 rfl) rfl ?_
      refine ev_getR (ea_at dt_X11_won 34 rfl) fl_X11_202 sh_8 rfl ?_
      refine ev_iload (ea_at dt_X11_won 35 rfl) rfl ?_
      refine ev_iaload (ea_at dt_X11_won 36 rfl) sh_13 (by decide) ?_
      refine ev_i (fun x10 => ?_)
      refine ev_iload (ea_at dt_X11_won 37 rfl) rfl ?_
      refine ev_icmp_eq (tgt := 96) (ea_at dt_X11_won 38 rfl) rfl (fun _ => ?_) (fun _ => ?_)
      · exact ev_drop (l' := [none, some (.int p1), none, some (.ref 8), some (.int x5), some (.int x6), some (.int s41.1), some (.int s41.2.1)]) ⟨Or.inl rfl, Or.inr rfl, Or.inl rfl, Or.inr rfl, Or.inr rfl, Or.inr rfl, Or.inr rfl, Or.inr rfl, trivial⟩ (jn_X11_won_96 G p1 x5 x6 s41.1 s41.2.1 s41.2.2  hC hX)
      · exact ev_drop (l' := [none, some (.int p1), none, some (.ref 8), some (.int x5), some (.int x6), some (.int s41.1), some (.int s41.2.1)]) ⟨Or.inl rfl, Or.inr rfl, Or.inl rfl, Or.inr rfl, Or.inr rfl, Or.inr rfl, Or.inr rfl, Or.inr rfl, trivial⟩ (jn_X11_won_73 G p1 x5 x6 s41.1 s41.2.1 s41.2.2  hC hX)
    · exact ev_drop (l' := [none, some (.int p1), none, some (.ref 8), some (.int x5), some (.int x6), some (.int s41.1), some (.int s41.2.1)]) ⟨Or.inl rfl, Or.inr rfl, Or.inl rfl, Or.inr rfl, Or.inr rfl, Or.inr rfl, Or.inr rfl, Or.inr rfl, trivial⟩ (jn_X11_won_73 G p1 x5 x6 s41.1 s41.2.1 s41.2.2  hC hX)
set_option maxHeartbeats 300000 in
theorem jn_X11_won_33 (G : ea_G) {res : ea_O}  (p1 : Int32) (x5 : Int32) (x6 : Int32) (m7 : ea_M)  {Φ : ea_O → Prop} (hR : ∀ t : ea_O, Φ t → res = t) : ea_E G F_X11_won res 33 [none, some (.int p1), none, some (.ref 8), some (.int x5), none, none, none] [.int x6] m7 1 6 (f_X11_won_j33 p1 x5 x6 m7) Φ := by
  unfold f_X11_won_j33
  refine ev_istore (ls' := [none, some (.int p1), none, some (.ref 8), some (.int x5), some (.int x6), none, none]) (ea_at dt_X11_won 18 rfl) (ea_lt rfl) rfl ?_
  refine ev_iconst (ea_at dt_X11_won 19 rfl) ic_0 ?_
  refine ev_istore (ls' := [none, some (.int p1), none, some (.ref 8), some (.int x5), some (.int x6), some (.int 0), none]) (ea_at dt_X11_won 20 rfl) (ea_lt rfl) rfl ?_
  refine ev_iconst (ea_at dt_X11_won 21 rfl) ic_0 ?_
  refine ev_istore (ls' := [none, some (.int p1), none, some (.ref 8), some (.int x5), some (.int x6), some (.int 0), some (.int 0)]) (ea_at dt_X11_won 22 rfl) (ea_lt rfl) rfl ?_
  refine ev_drop (l' := [none, some (.int p1), none, some (.ref 8), some (.int x5), some (.int x6), some (.int 0), some (.int 0)]) ⟨Or.inl rfl, Or.inr rfl, Or.inl rfl, Or.inr rfl, Or.inr rfl, Or.inr rfl, Or.inr rfl, Or.inr rfl, trivial⟩ ?_
  refine ev_bind (lp_X11_won_41 G p1 x5 x6   (fun x41s h => ?_) ea_fuel (0, 0, m7))
  obtain ⟨t1, e1, q1⟩ := h
  refine (?_ : ea_E G F_X11_won res 105 [none, none, none, none, none, none, some (.int x41s.1), none] [] x41s.2 1 6 _ Φ) t1 e1 q1
  refine ev_iload (ea_at dt_X11_won 54 rfl) rfl ?_
  exact ev_iret (ea_at dt_X11_won 55 rfl) rfl ⟨by decide, by decide⟩ (fun h => hR _ h)
set_option maxHeartbeats 300000 in
theorem jn_X11_won_22 (G : ea_G) {res : ea_O}  (p1 : Int32) (p2 : Int32) (x3 : Int32) (m4 : ea_M)  {Φ : ea_O → Prop} (hR : ∀ t : ea_O, Φ t → res = t) : ea_E G F_X11_won res 22 [none, some (.int p1), some (.int p2), some (.ref 8), none, none, none, none] [.int x3] m4 1 6 (f_X11_won_j22 p1 p2 x3 m4) Φ := by
  unfold f_X11_won_j22
  refine ev_istore (ls' := [none, some (.int p1), some (.int p2), some (.ref 8), some (.int x3), none, none, none]) (ea_at dt_X11_won 12 rfl) (ea_lt rfl) rfl ?_
  refine ev_iload_n (ea_at dt_X11_won 13 rfl) rfl ?_
  refine ev_if_eq (tgt := 32) (ea_at dt_X11_won 14 rfl) rfl (fun _ => ?_) (fun _ => ?_)
  · refine ev_iconst (ea_at dt_X11_won 17 rfl) ic_2 ?_
    exact ev_drop (l' := [none, some (.int p1), none, some (.ref 8), some (.int x3), none, none, none]) ⟨Or.inl rfl, Or.inr rfl, Or.inl rfl, Or.inr rfl, Or.inr rfl, Or.inl rfl, Or.inl rfl, Or.inl rfl, trivial⟩ (jn_X11_won_33 G p1 x3 2 m4  hR)
  · refine ev_iconst (ea_at dt_X11_won 15 rfl) ic_1 ?_
    refine ev_goto (tgt := 33) (ea_at dt_X11_won 16 rfl) rfl ?_
    exact ev_drop (l' := [none, some (.int p1), none, some (.ref 8), some (.int x3), none, none, none]) ⟨Or.inl rfl, Or.inr rfl, Or.inl rfl, Or.inr rfl, Or.inr rfl, Or.inl rfl, Or.inl rfl, Or.inl rfl, trivial⟩ (jn_X11_won_33 G p1 x3 1 m4  hR)
set_option maxHeartbeats 300000 in
theorem ok_X11_won (G : ea_G) (p1 : Int32) (p2 : Int32) (m : ea_M)  (zZ : ea_O) (hZ : f_X11_won p1 p2 m = some zZ) : ea_Met G yX11_won F_X11_won [.ref 0, .int p1, .int p2] m zZ := by
  refine ea_met (F := F_X11_won) (by decide +kernel) rfl rfl (Nat.le_of_ble_eq_true rfl) (by simp only [List.mem_cons, List.not_mem_nil, or_false]; intro v hv; rcases hv with rfl | rfl | rfl <;> rfl) ((?_ : ea_E G F_X11_won zZ 0 [some (.ref 0), some (.int p1), some (.int p2), none, none, none, none, none] [] m 0 0 (f_X11_won p1 p2 m) (fun t => t = zZ)) zZ hZ rfl)
  have hR : ∀ t : ea_O, t = zZ → zZ = t := fun t h => h.symm
  unfold f_X11_won
  refine ev_aload_n (ea_at dt_X11_won 0 rfl) rfl ?_
  refine ev_iload_n (ea_at dt_X11_won 1 rfl) rfl ?_
  refine ev_cxU (F1 := F_X11_needCounsel) rfl (fun zY hY => ea_runV (As := [.int p1]) (ea_at dt_X11_won 2 rfl) ml_X11_177 mv_X11_needCounsel (ok_X11_needCounsel G p1 m  zY hY) sh_0 rfl rfl rfl (Nat.le_of_ble_eq_true rfl) rfl) rfl ⟨by decide, by decide⟩ (fun kx mx t e q => ⟨0, by cases e; exact hR _ q⟩) (fun r2 m1 => ?_)
  refine ev_aload_n (ea_at dt_X11_won 3 rfl) rfl ?_
  refine ev_getR (ea_at dt_X11_won 4 rfl) fl_X11_23 sh_0 rfl ?_
  refine ev_getR (ea_at dt_X11_won 5 rfl) fl_X11_180 sh_2 rfl ?_
  refine ev_astore_n (ls' := [some (.ref 0), some (.int p1), some (.int p2), some (.ref 8), none, none, none, none]) (ea_at dt_X11_won 6 rfl) (ea_lt rfl) rfl ?_
  refine ev_iload_n (ea_at dt_X11_won 7 rfl) rfl ?_
  refine ev_if_eq (tgt := 21) (ea_at dt_X11_won 8 rfl) rfl (fun _ => ?_) (fun _ => ?_)
  · refine ev_iconst (ea_at dt_X11_won 11 rfl) ic_1 ?_
    exact ev_drop (l' := [none, some (.int p1), some (.int p2), some (.ref 8), none, none, none, none]) ⟨Or.inl rfl, Or.inr rfl, Or.inr rfl, Or.inr rfl, Or.inl rfl, Or.inl rfl, Or.inl rfl, Or.inl rfl, trivial⟩ (jn_X11_won_22 G p1 p2 1 m1  hR)
  · refine ev_iconst (ea_at dt_X11_won 9 rfl) ic_2 ?_
    refine ev_goto (tgt := 22) (ea_at dt_X11_won 10 rfl) rfl ?_
    exact ev_drop (l' := [none, some (.int p1), some (.int p2), some (.ref 8), none, none, none, none]) ⟨Or.inl rfl, Or.inr rfl, Or.inr rfl, Or.inr rfl, Or.inl rfl, Or.inl rfl, Or.inl rfl, Or.inl rfl, trivial⟩ (jn_X11_won_22 G p1 p2 2 m1  hR)
def F_J6_bitCount_0f7a4 : ea_F := (ea_rm 8 0 0, cJ6_bitCount_0f7a4, RJ6, some .int, 1, [], 0, 0)
def D_J6_bitCount_0f7a4 : List (Nat × Instr × Nat) := [(0, .iload_n 0, 1), (1, .iload_n 0, 1), (2, .iconst 1, 1), (3, .iushr, 1), (4, .ldc_w 265, 3), (7, .iand, 1), (8, .isub, 1), (9, .istore_n 0, 1), (10, .iload_n 0, 1), (11, .ldc_w 266, 3), (14, .iand, 1), (15, .iload_n 0, 1), (16, .iconst 2, 1), (17, .iushr, 1), (18, .ldc_w 266, 3), (21, .iand, 1), (22, .iadd, 1), (23, .istore_n 0, 1), (24, .iload_n 0, 1), (25, .iload_n 0, 1), (26, .iconst 4, 1), (27, .iushr, 1), (28, .iadd, 1), (29, .ldc_w 267, 3), (32, .iand, 1), (33, .istore_n 0, 1), (34, .iload_n 0, 1), (35, .iload_n 0, 1), (36, .bipush 8, 2), (38, .iushr, 1), (39, .iadd, 1), (40, .istore_n 0, 1), (41, .iload_n 0, 1), (42, .iload_n 0, 1), (43, .bipush 16, 2), (45, .iushr, 1), (46, .iadd, 1), (47, .istore_n 0, 1), (48, .iload_n 0, 1), (49, .bipush 63, 2), (51, .iand, 1), (52, .ireturn, 1)]
theorem dt_J6_bitCount_0f7a4 : ∀ q ∈ D_J6_bitCount_0f7a4, decode cJ6_bitCount_0f7a4 q.1 = .ok q.2 := by decide +kernel
theorem mv_J6_bitCount_0f7a4 : ea_MS yJ6_bitCount_0f7a4 (F_J6_bitCount_0f7a4) 1 := ⟨⟨List.mem_append_right _ (List.mem_of_getElem? (i := 29) (by decide +kernel)), List.mem_append_right _ (List.mem_of_getElem? (i := 586) (by decide +kernel)), ⟨by decide, by decide⟩, by decide +kernel⟩, List.mem_append_right _ (List.mem_of_getElem? (i := 585) (by decide +kernel))⟩
def f_J6_bitCount_0f7a4 (p1 : Int32) (m : ea_M) : Option (Int32 × ea_M) :=
  ea_bd (((Int32.toUInt32 p1 >>> (Int32.toUInt32 1 &&& Int32.toUInt32 31)).toInt32) &&& 1431655765) fun x1 =>
  ea_bd (p1 - x1) fun x2 =>
  ea_bd (((Int32.toUInt32 x2 >>> (Int32.toUInt32 2 &&& Int32.toUInt32 31)).toInt32) &&& 858993459) fun x3 =>
  ea_bd ((x2 &&& 858993459) + x3) fun x4 =>
  ea_bd (x4 + ((Int32.toUInt32 x4 >>> (Int32.toUInt32 4 &&& Int32.toUInt32 31)).toInt32)) fun x5 =>
  ea_bd (x5 &&& 252645135) fun x6 =>
  ea_bd (x6 + ((Int32.toUInt32 x6 >>> (Int32.toUInt32 8 &&& Int32.toUInt32 31)).toInt32)) fun x7 =>
  ea_bd (x7 + ((Int32.toUInt32 x7 >>> (Int32.toUInt32 16 &&& Int32.toUInt32 31)).toInt32)) fun x8 =>
  some (x8 &&& 63, m)
set_option maxHeartbeats 300000 in
theorem ok_J6_bitCount_0f7a4 (G : ea_G) (p1 : Int32) (m : ea_M)  (rZ : Int32) (mZ : ea_M) (hZ : f_J6_bitCount_0f7a4 p1 m = some (rZ, mZ)) : ea_Met G yJ6_bitCount_0f7a4 F_J6_bitCount_0f7a4 [.int p1] m (0, rZ, mZ) := by
  refine ea_met (F := F_J6_bitCount_0f7a4) (by decide +kernel) rfl rfl (Nat.le_of_ble_eq_true rfl) (by simp only [List.mem_cons, List.not_mem_nil, or_false]; intro v hv; rcases hv with rfl <;> rfl) ((?_ : ea_E G F_J6_bitCount_0f7a4 (0, rZ, mZ) 0 [some (.int p1)] [] m 0 0 (f_J6_bitCount_0f7a4 p1 m) (fun t => t = (rZ, mZ))) (rZ, mZ) hZ rfl)
  have hR : ∀ t : Int32 × ea_M, t = (rZ, mZ) → ((0, rZ, mZ) : ea_O) = (0, t) := fun t h => by rw [h]
  unfold f_J6_bitCount_0f7a4
  refine ev_iload_n (ea_at dt_J6_bitCount_0f7a4 0 rfl) rfl ?_
  refine ev_iload_n (ea_at dt_J6_bitCount_0f7a4 1 rfl) rfl ?_
  refine ev_iconst (ea_at dt_J6_bitCount_0f7a4 2 rfl) ic_1 ?_
  refine ev_iushr (ea_at dt_J6_bitCount_0f7a4 3 rfl) ?_
  refine ev_ldcw (ea_at dt_J6_bitCount_0f7a4 4 rfl) ki_J6_265 ?_
  refine ev_iand (ea_at dt_J6_bitCount_0f7a4 5 rfl) ?_
  refine ev_i (fun x1 => ?_)
  refine ev_isub (ea_at dt_J6_bitCount_0f7a4 6 rfl) ?_
  refine ev_i (fun x2 => ?_)
  refine ev_istore_n (ls' := [some (.int x2)]) (ea_at dt_J6_bitCount_0f7a4 7 rfl) (ea_lt rfl) rfl ?_
  refine ev_iload_n (ea_at dt_J6_bitCount_0f7a4 8 rfl) rfl ?_
  refine ev_ldcw (ea_at dt_J6_bitCount_0f7a4 9 rfl) ki_J6_266 ?_
  refine ev_iand (ea_at dt_J6_bitCount_0f7a4 10 rfl) ?_
  refine ev_iload_n (ea_at dt_J6_bitCount_0f7a4 11 rfl) rfl ?_
  refine ev_iconst (ea_at dt_J6_bitCount_0f7a4 12 rfl) ic_2 ?_
  refine ev_iushr (ea_at dt_J6_bitCount_0f7a4 13 rfl) ?_
  refine ev_ldcw (ea_at dt_J6_bitCount_0f7a4 14 rfl) ki_J6_266 ?_
  refine ev_iand (ea_at dt_J6_bitCount_0f7a4 15 rfl) ?_
  refine ev_i (fun x3 => ?_)
  refine ev_iadd (ea_at dt_J6_bitCount_0f7a4 16 rfl) ?_
  refine ev_i (fun x4 => ?_)
  refine ev_istore_n (ls' := [some (.int x4)]) (ea_at dt_J6_bitCount_0f7a4 17 rfl) (ea_lt rfl) rfl ?_
  refine ev_iload_n (ea_at dt_J6_bitCount_0f7a4 18 rfl) rfl ?_
  refine ev_iload_n (ea_at dt_J6_bitCount_0f7a4 19 rfl) rfl ?_
  refine ev_iconst (ea_at dt_J6_bitCount_0f7a4 20 rfl) ic_4 ?_
  refine ev_iushr (ea_at dt_J6_bitCount_0f7a4 21 rfl) ?_
  refine ev_iadd (ea_at dt_J6_bitCount_0f7a4 22 rfl) ?_
  refine ev_i (fun x5 => ?_)
  refine ev_ldcw (ea_at dt_J6_bitCount_0f7a4 23 rfl) ki_J6_267 ?_
  refine ev_iand (ea_at dt_J6_bitCount_0f7a4 24 rfl) ?_
  refine ev_i (fun x6 => ?_)
  refine ev_istore_n (ls' := [some (.int x6)]) (ea_at dt_J6_bitCount_0f7a4 25 rfl) (ea_lt rfl) rfl ?_
  refine ev_iload_n (ea_at dt_J6_bitCount_0f7a4 26 rfl) rfl ?_
  refine ev_iload_n (ea_at dt_J6_bitCount_0f7a4 27 rfl) rfl ?_
  refine ev_bipush (ea_at dt_J6_bitCount_0f7a4 28 rfl) bp_8 ?_
  refine ev_iushr (ea_at dt_J6_bitCount_0f7a4 29 rfl) ?_
  refine ev_iadd (ea_at dt_J6_bitCount_0f7a4 30 rfl) ?_
  refine ev_i (fun x7 => ?_)
  refine ev_istore_n (ls' := [some (.int x7)]) (ea_at dt_J6_bitCount_0f7a4 31 rfl) (ea_lt rfl) rfl ?_
  refine ev_iload_n (ea_at dt_J6_bitCount_0f7a4 32 rfl) rfl ?_
  refine ev_iload_n (ea_at dt_J6_bitCount_0f7a4 33 rfl) rfl ?_
  refine ev_bipush (ea_at dt_J6_bitCount_0f7a4 34 rfl) bp_16 ?_
  refine ev_iushr (ea_at dt_J6_bitCount_0f7a4 35 rfl) ?_
  refine ev_iadd (ea_at dt_J6_bitCount_0f7a4 36 rfl) ?_
  refine ev_i (fun x8 => ?_)
  refine ev_istore_n (ls' := [some (.int x8)]) (ea_at dt_J6_bitCount_0f7a4 37 rfl) (ea_lt rfl) rfl ?_
  refine ev_iload_n (ea_at dt_J6_bitCount_0f7a4 38 rfl) rfl ?_
  refine ev_bipush (ea_at dt_J6_bitCount_0f7a4 39 rfl) bp_63 ?_
  refine ev_iand (ea_at dt_J6_bitCount_0f7a4 40 rfl) ?_
  exact ev_iret (ea_at dt_J6_bitCount_0f7a4 41 rfl) rfl ⟨by decide, by decide⟩ (fun h => hR _ h)
