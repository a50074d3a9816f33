def F_X11_needBird : ea_F := (ea_rm 8 1 6, cX11_needBird, RX11, none, 2, [], 1, 6)
def D_X11_needBird : List (Nat × Instr × Nat) := [(0, .iload_n 1, 1), (1, .ifCond .lt 14, 3), (4, .iload_n 1, 1), (5, .aload_n 0, 1), (6, .getfield 23, 3), (9, .getfield 233, 3), (12, .if_icmp .lt 14, 3), (15, .new 433, 3), (18, .dup, 1), (19, .ldc_w 435, 3), (22, .invokespecial 437, 3), (25, .athrow, 1), (26, .return_, 1)]
theorem dt_X11_needBird : ∀ q ∈ D_X11_needBird, decode cX11_needBird q.1 = .ok q.2 := by decide +kernel
theorem mv_X11_needBird : ea_MV yX11_needBird (F_X11_needBird) 1 := ⟨⟨List.mem_append_right _ (List.mem_of_getElem? (i := 1) (by decide +kernel)), List.mem_append_right _ (List.mem_of_getElem? (i := 979) (by decide +kernel)), ⟨by decide, by decide⟩, by decide +kernel⟩, List.mem_append_right _ (List.mem_of_getElem? (i := 978) (by decide +kernel)), List.mem_append_left _ (List.mem_of_getElem? (i := 25) (by decide +kernel))⟩
def f_X11_needBird (p1 : Int32) (m : ea_M) : Option (ea_O) :=
  if p1 < 0 then
  some (1, 0, m)
  else
  ea_bd (m 2 8) fun x1 =>
  if p1 < x1 then
  some (0, 0, m)
  else
  some (1, 0, m)
set_option maxHeartbeats 300000 in
theorem ok_X11_needBird (G : ea_G) (p1 : Int32) (m : ea_M)  (zZ : ea_O) (hZ : f_X11_needBird p1 m = some zZ) : ea_Met G yX11_needBird F_X11_needBird [.ref 0, .int p1] m zZ := by
  refine ea_met (F := F_X11_needBird) (by decide +kernel) rfl rfl (Nat.le_of_ble_eq_true rfl) (by simp only [List.mem_cons, List.not_mem_nil, or_false]; intro v hv; rcases hv with rfl | rfl <;> rfl) ((?_ : ea_E G F_X11_needBird zZ 0 [some (.ref 0), some (.int p1)] [] m 0 0 (f_X11_needBird p1 m) (fun t => t = zZ)) zZ hZ rfl)
  have hR : ∀ t : ea_O, t = zZ → zZ = t := fun t h => h.symm
  unfold f_X11_needBird
  refine ev_iload_n (ea_at dt_X11_needBird 0 rfl) rfl ?_
  refine ev_if_lt (tgt := 15) (ea_at dt_X11_needBird 1 rfl) rfl (fun _ => ?_) (fun _ => ?_)
  · exact ev_throwSW (kx := 1) (j := 34) (ea_at dt_X11_needBird 7 rfl) (ea_at dt_X11_needBird 8 rfl) (ea_at dt_X11_needBird 9 rfl) (ea_at dt_X11_needBird 10 rfl) (ea_at dt_X11_needBird 11 rfl) rfl (by decide) rfl (by decide +kernel) ea_tw1 cl_X11_433 ini_1 ml_X11_437 rfl ⟨by decide, by decide, by decide, by decide, by decide, by decide⟩ (fun h => ⟨0, hR _ h⟩)
  · refine ev_iload_n (ea_at dt_X11_needBird 2 rfl) rfl ?_
    refine ev_aload_n (ea_at dt_X11_needBird 3 rfl) rfl ?_
    refine ev_getR (ea_at dt_X11_needBird 4 rfl) fl_X11_23 sh_0 rfl ?_
    refine ev_getI (ea_at dt_X11_needBird 5 rfl) fl_X11_233 sh_2 rfl ?_
    refine ev_i (fun x1 => ?_)
    refine ev_icmp_lt (tgt := 26) (ea_at dt_X11_needBird 6 rfl) rfl (fun _ => ?_) (fun _ => ?_)
    · exact ev_vret (ea_at dt_X11_needBird 12 rfl) rfl ⟨by decide, by decide⟩ (fun h => ⟨0, hR _ h⟩)
    · exact ev_throwSW (kx := 1) (j := 34) (ea_at dt_X11_needBird 7 rfl) (ea_at dt_X11_needBird 8 rfl) (ea_at dt_X11_needBird 9 rfl) (ea_at dt_X11_needBird 10 rfl) (ea_at dt_X11_needBird 11 rfl) rfl (by decide) rfl (by decide +kernel) ea_tw1 cl_X11_433 ini_1 ml_X11_437 rfl ⟨by decide, by decide, by decide, by decide, by decide, by decide⟩ (fun h => ⟨0, hR _ h⟩)
def F_X11_bird : ea_F := (ea_rm 9 2 12, cX11_bird, RX11, some .int, 3, [], 2, 12)
def D_X11_bird : List (Nat × Instr × Nat) := [(0, .aload_n 0, 1), (1, .iload_n 1, 1), (2, .invokevirtual 157, 3), (5, .iload_n 2, 1), (6, .tableswitch 70 0 3 #[30, 40, 50, 60], 30), (36, .aload_n 0, 1), (37, .getfield 23, 3), (40, .getfield 160, 3), (43, .iload_n 1, 1), (44, .iaload, 1), (45, .ireturn, 1), (46, .aload_n 0, 1), (47, .getfield 23, 3), (50, .getfield 163, 3), (53, .iload_n 1, 1), (54, .iaload, 1), (55, .ireturn, 1), (56, .aload_n 0, 1), (57, .getfield 23, 3), (60, .getfield 166, 3), (63, .iload_n 1, 1), (64, .iaload, 1), (65, .ireturn, 1), (66, .aload_n 0, 1), (67, .getfield 23, 3), (70, .getfield 169, 3), (73, .iload_n 1, 1), (74, .iaload, 1), (75, .ireturn, 1), (76, .new 172, 3), (79, .dup, 1), (80, .ldc 174, 2), (82, .invokespecial 176, 3), (85, .athrow, 1)]
theorem dt_X11_bird : ∀ q ∈ D_X11_bird, decode cX11_bird q.1 = .ok q.2 := by decide +kernel
theorem mv_X11_bird : ea_MV yX11_bird (F_X11_bird) 2 := ⟨⟨List.mem_append_right _ (List.mem_of_getElem? (i := 1) (by decide +kernel)), List.mem_append_right _ (List.mem_of_getElem? (i := 975) (by decide +kernel)), ⟨by decide, by decide⟩, by decide +kernel⟩, List.mem_append_right _ (List.mem_of_getElem? (i := 973) (by decide +kernel)), List.mem_append_right _ (List.mem_of_getElem? (i := 974) (by decide +kernel))⟩
def f_X11_bird (p1 : Int32) (p2 : Int32) (m : ea_M) : Option (ea_O) :=
  ea_cx (f_X11_needBird p1 m) (fun r2 m1 =>
  if p2 = 0 then
  ea_g p1 6 (ea_bd (m1 4 (Int32.toNatClampNeg p1)) fun x3 =>
  some (0, x3, m1))
  else
  if p2 = 1 then
  ea_g p1 6 (ea_bd (m1 5 (Int32.toNatClampNeg p1)) fun x4 =>
  some (0, x4, m1))
  else
  if p2 = 2 then
  ea_g p1 6 (ea_bd (m1 6 (Int32.toNatClampNeg p1)) fun x5 =>
  some (0, x5, m1))
  else
  if p2 = 3 then
  ea_g p1 6 (ea_bd (m1 7 (Int32.toNatClampNeg p1)) fun x6 =>
  some (0, x6, m1))
  else
  some (4, 0, m1)) (fun kx mx => some (kx, 0, mx))
set_option maxHeartbeats 300000 in
theorem ok_X11_bird (G : ea_G) (p1 : Int32) (p2 : Int32) (m : ea_M)  (zZ : ea_O) (hZ : f_X11_bird p1 p2 m = some zZ) : ea_Met G yX11_bird F_X11_bird [.ref 0, .int p1, .int p2] m zZ := by
  refine ea_met (F := F_X11_bird) (by decide +kernel) rfl rfl (Nat.le_of_ble_eq_true rfl) (by simp only [List.mem_cons, List.not_mem_nil, or_false]; intro v hv; rcases hv with rfl | rfl | rfl <;> rfl) ((?_ : ea_E G F_X11_bird zZ 0 [some (.ref 0), some (.int p1), some (.int p2)] [] m 0 0 (f_X11_bird p1 p2 m) (fun t => t = zZ)) zZ hZ rfl)
  have hR : ∀ t : ea_O, t = zZ → zZ = t := fun t h => h.symm
  unfold f_X11_bird
  refine ev_aload_n (ea_at dt_X11_bird 0 rfl) rfl ?_
  refine ev_iload_n (ea_at dt_X11_bird 1 rfl) rfl ?_
  refine ev_cxU (F1 := F_X11_needBird) rfl (fun zY hY => ea_runV (As := [.int p1]) (ea_at dt_X11_bird 2 rfl) ml_X11_157 mv_X11_needBird (ok_X11_needBird G p1 m  zY hY) sh_0 rfl rfl rfl (Nat.le_of_ble_eq_true rfl) rfl) rfl ⟨by decide, by decide⟩ (fun kx mx t e q => ⟨0, by cases e; exact hR _ q⟩) (fun r2 m1 => ?_)
  refine ev_iload_n (ea_at dt_X11_bird 3 rfl) rfl ?_
  refine ev_ite (fun n0 => ?_) (fun n0 => ?_)
  · refine ev_tsw (c := 0) (tgt := 36) n0 (ea_at dt_X11_bird 4 rfl) (by decide) (by decide) rfl rfl ?_
    refine ev_aload_n (ea_at dt_X11_bird 5 rfl) rfl ?_
    refine ev_getR (ea_at dt_X11_bird 6 rfl) fl_X11_23 sh_0 rfl ?_
    refine ev_getR (ea_at dt_X11_bird 7 rfl) fl_X11_160 sh_2 rfl ?_
    refine ev_iload_n (ea_at dt_X11_bird 8 rfl) rfl ?_
    refine ev_iaload (ea_at dt_X11_bird 9 rfl) sh_4 (by decide) ?_
    refine ev_i (fun x3 => ?_)
    exact ev_iret (ea_at dt_X11_bird 10 rfl) rfl ⟨by decide, by decide⟩ (fun h => hR _ h)
  · refine ev_ite (fun n1 => ?_) (fun n1 => ?_)
    · refine ev_tsw (c := 1) (tgt := 46) n1 (ea_at dt_X11_bird 4 rfl) (by decide) (by decide) rfl rfl ?_
      refine ev_aload_n (ea_at dt_X11_bird 11 rfl) rfl ?_
      refine ev_getR (ea_at dt_X11_bird 12 rfl) fl_X11_23 sh_0 rfl ?_
      refine ev_getR (ea_at dt_X11_bird 13 rfl) fl_X11_163 sh_2 rfl ?_
      refine ev_iload_n (ea_at dt_X11_bird 14 rfl) rfl ?_
      refine ev_iaload (ea_at dt_X11_bird 15 rfl) sh_5 (by decide) ?_
      refine ev_i (fun x4 => ?_)
      exact ev_iret (ea_at dt_X11_bird 16 rfl) rfl ⟨by decide, by decide⟩ (fun h => hR _ h)
    · refine ev_ite (fun n2 => ?_) (fun n2 => ?_)
      · refine ev_tsw (c := 2) (tgt := 56) n2 (ea_at dt_X11_bird 4 rfl) (by decide) (by decide) rfl rfl ?_
        refine ev_aload_n (ea_at dt_X11_bird 17 rfl) rfl ?_
        refine ev_getR (ea_at dt_X11_bird 18 rfl) fl_X11_23 sh_0 rfl ?_
        refine ev_getR (ea_at dt_X11_bird 19 rfl) fl_X11_166 sh_2 rfl ?_
        refine ev_iload_n (ea_at dt_X11_bird 20 rfl) rfl ?_
        refine ev_iaload (ea_at dt_X11_bird 21 rfl) sh_6 (by decide) ?_
        refine ev_i (fun x5 => ?_)
        exact ev_iret (ea_at dt_X11_bird 22 rfl) rfl ⟨by decide, by decide⟩ (fun h => hR _ h)
      · refine ev_ite (fun n3 => ?_) (fun n3 => ?_)
        · refine ev_tsw (c := 3) (tgt := 66) n3 (ea_at dt_X11_bird 4 rfl) (by decide) (by decide) rfl rfl ?_
          refine ev_aload_n (ea_at dt_X11_bird 23 rfl) rfl ?_
          refine ev_getR (ea_at dt_X11_bird 24 rfl) fl_X11_23 sh_0 rfl ?_
          refine ev_getR (ea_at dt_X11_bird 25 rfl) fl_X11_169 sh_2 rfl ?_
          refine ev_iload_n (ea_at dt_X11_bird 26 rfl) rfl ?_
          refine ev_iaload (ea_at dt_X11_bird 27 rfl) sh_7 (by decide) ?_
          refine ev_i (fun x6 => ?_)
          exact ev_iret (ea_at dt_X11_bird 28 rfl) rfl ⟨by decide, by decide⟩ (fun h => hR _ h)
        · refine ev_tswOut (cnt := 4) (tgt := 76) (ea_at dt_X11_bird 4 rfl) rfl (ea_nS (ea_nS (ea_nS (ea_nS (ea_nZ) (v := 0) (by decide) n0) (v := 1) (by decide) n1) (v := 2) (by decide) n2) (v := 3) (by decide) n3) rfl ?_
          exact ev_throwN (kx := 4) (j := 35) (ea_at dt_X11_bird 29 rfl) (ea_at dt_X11_bird 30 rfl) (ea_at dt_X11_bird 31 rfl) (ea_at dt_X11_bird 32 rfl) (ea_at dt_X11_bird 33 rfl) rfl (by decide) rfl cl_X11_172 ini_4 ml_X11_176 rfl ⟨by decide, by decide, by decide, by decide, by decide, by decide⟩ (fun h => ⟨0, hR _ h⟩)
def F_X11_needCounsel : ea_F := (ea_rm 8 1 6, cX11_needCounsel, RX11, none, 2, [], 1, 6)
def D_X11_needCounsel : List (Nat × Instr × Nat) := [(0, .iload_n 1, 1), (1, .ifCond .lt 17, 3), (4, .iload_n 1, 1), (5, .aload_n 0, 1), (6, .getfield 23, 3), (9, .getfield 180, 3), (12, .getfield 236, 3), (15, .if_icmp .lt 14, 3), (18, .new 433, 3), (21, .dup, 1), (22, .ldc_w 438, 3), (25, .invokespecial 437, 3), (28, .athrow, 1), (29, .return_, 1)]
theorem dt_X11_needCounsel : ∀ q ∈ D_X11_needCounsel, decode cX11_needCounsel q.1 = .ok q.2 := by decide +kernel
theorem mv_X11_needCounsel : ea_MV yX11_needCounsel (F_X11_needCounsel) 1 := ⟨⟨List.mem_append_right _ (List.mem_of_getElem? (i := 1) (by decide +kernel)), List.mem_append_right _ (List.mem_of_getElem? (i := 1022) (by decide +kernel)), ⟨by decide, by decide⟩, by decide +kernel⟩, List.mem_append_right _ (List.mem_of_getElem? (i := 1021) (by decide +kernel)), List.mem_append_left _ (List.mem_of_getElem? (i := 26) (by decide +kernel))⟩
def f_X11_needCounsel (p1 : Int32) (m : ea_M) : Option (ea_O) :=
  if p1 < 0 then
  some (1, 0, m)
  else
  ea_bd (m 8 0) fun x1 =>
  if p1 < x1 then
  some (0, 0, m)
  else
  some (1, 0, m)
set_option maxHeartbeats 300000 in
theorem ok_X11_needCounsel (G : ea_G) (p1 : Int32) (m : ea_M)  (zZ : ea_O) (hZ : f_X11_needCounsel p1 m = some zZ) : ea_Met G yX11_needCounsel F_X11_needCounsel [.ref 0, .int p1] m zZ := by
  refine ea_met (F := F_X11_needCounsel) (by decide +kernel) rfl rfl (Nat.le_of_ble_eq_true rfl) (by simp only [List.mem_cons, List.not_mem_nil, or_false]; intro v hv; rcases hv with rfl | rfl <;> rfl) ((?_ : ea_E G F_X11_needCounsel zZ 0 [some (.ref 0), some (.int p1)] [] m 0 0 (f_X11_needCounsel p1 m) (fun t => t = zZ)) zZ hZ rfl)
  have hR : ∀ t : ea_O, t = zZ → zZ = t := fun t h => h.symm
  unfold f_X11_needCounsel
  refine ev_iload_n (ea_at dt_X11_needCounsel 0 rfl) rfl ?_
  refine ev_if_lt (tgt := 18) (ea_at dt_X11_needCounsel 1 rfl) rfl (fun _ => ?_) (fun _ => ?_)
  · exact ev_throwSW (kx := 1) (j := 36) (ea_at dt_X11_needCounsel 8 rfl) (ea_at dt_X11_needCounsel 9 rfl) (ea_at dt_X11_needCounsel 10 rfl) (ea_at dt_X11_needCounsel 11 rfl) (ea_at dt_X11_needCounsel 12 rfl) rfl (by decide) rfl (by decide +kernel) ea_tw1 cl_X11_433 ini_1 ml_X11_437 rfl ⟨by decide, by decide, by decide, by decide, by decide, by decide⟩ (fun h => ⟨0, hR _ h⟩)
  · refine ev_iload_n (ea_at dt_X11_needCounsel 2 rfl) rfl ?_
    refine ev_aload_n (ea_at dt_X11_needCounsel 3 rfl) rfl ?_
    refine ev_getR (ea_at dt_X11_needCounsel 4 rfl) fl_X11_23 sh_0 rfl ?_
    refine ev_getR (ea_at dt_X11_needCounsel 5 rfl) fl_X11_180 sh_2 rfl ?_
    refine ev_getI (ea_at dt_X11_needCounsel 6 rfl) fl_X11_236 sh_8 rfl ?_
    refine ev_i (fun x1 => ?_)
    refine ev_icmp_lt (tgt := 29) (ea_at dt_X11_needCounsel 7 rfl) rfl (fun _ => ?_) (fun _ => ?_)
    · exact ev_vret (ea_at dt_X11_needCounsel 13 rfl) rfl ⟨by decide, by decide⟩ (fun h => ⟨0, hR _ h⟩)
    · exact ev_throwSW (kx := 1) (j := 36) (ea_at dt_X11_needCounsel 8 rfl) (ea_at dt_X11_needCounsel 9 rfl) (ea_at dt_X11_needCounsel 10 rfl) (ea_at dt_X11_needCounsel 11 rfl) (ea_at dt_X11_needCounsel 12 rfl) rfl (by decide) rfl (by decide +kernel) ea_tw1 cl_X11_433 ini_1 ml_X11_437 rfl ⟨by decide, by decide, by decide, by decide, by decide, by decide⟩ (fun h => ⟨0, hR _ h⟩)
def F_X1_held : ea_F := (ea_rm 8 0 0, cX1_held, RX1, some .int, 3, [], 0, 0)
def D_X1_held : List (Nat × Instr × Nat) := [(0, .aload_n 0, 1), (1, .getfield 18, 3), (4, .iload_n 1, 1), (5, .bipush 6, 2), (7, .imul, 1), (8, .iload_n 2, 1), (9, .iadd, 1), (10, .iaload, 1), (11, .ireturn, 1)]
theorem dt_X1_held : ∀ q ∈ D_X1_held, decode cX1_held q.1 = .ok q.2 := by decide +kernel
theorem mv_X1_held : ea_MV yX1_held (F_X1_held) 2 := ⟨⟨List.mem_append_right _ (List.mem_of_getElem? (i := 3) (by decide +kernel)), List.mem_append_right _ (List.mem_of_getElem? (i := 579) (by decide +kernel)), ⟨by decide, by decide⟩, by decide +kernel⟩, List.mem_append_right _ (List.mem_of_getElem? (i := 577) (by decide +kernel)), List.mem_append_right _ (List.mem_of_getElem? (i := 578) (by decide +kernel))⟩
def f_X1_held (a : Nat) (p1 : Int32) (p2 : Int32) (m : ea_M) : Option (Int32 × ea_M) :=
  ea_bd ((p1 * 6) + p2) fun x1 =>
  ea_g x1 24 (ea_bd (m (a + 1) (Int32.toNatClampNeg x1)) fun x2 =>
  some (x2, m))
set_option maxHeartbeats 300000 in
theorem ok_X1_held (G : ea_G) (a : Nat) (p1 : Int32) (p2 : Int32) (m : ea_M) (ha : ea_isBench a) (rZ : Int32) (mZ : ea_M) (hZ : f_X1_held a p1 p2 m = some (rZ, mZ)) : ea_Met G yX1_held F_X1_held [.ref a, .int p1, .int p2] m (0, rZ, mZ) := by
  refine ea_met (F := F_X1_held) (by decide +kernel) rfl rfl (Nat.le_of_ble_eq_true rfl) (by simp only [List.mem_cons, List.not_mem_nil, or_false]; intro v hv; rcases hv with rfl | rfl | rfl <;> rfl) ((?_ : ea_E G F_X1_held (0, rZ, mZ) 0 [some (.ref a), some (.int p1), some (.int p2)] [] m 0 0 (f_X1_held a p1 p2 m) (fun t => t = (rZ, mZ))) (rZ, mZ) hZ rfl)
  have hR : ∀ t : Int32 × ea_M, t = (rZ, mZ) → ((0, rZ, mZ) : ea_O) = (0, t) := fun t h => by rw [h]
  unfold f_X1_held
  refine ev_aload_n (ea_at dt_X1_held 0 rfl) rfl ?_
  refine ev_getR (ea_at dt_X1_held 1 rfl) fl_X1_18 ha.1 rfl ?_
  refine ev_iload_n (ea_at dt_X1_held 2 rfl) rfl ?_
  refine ev_bipush (ea_at dt_X1_held 3 rfl) bp_6 ?_
  refine ev_imul (ea_at dt_X1_held 4 rfl) ?_
  refine ev_iload_n (ea_at dt_X1_held 5 rfl) rfl ?_
  refine ev_iadd (ea_at dt_X1_held 6 rfl) ?_
  refine ev_i (fun x1 => ?_)
  refine ev_iaload (ea_at dt_X1_held 7 rfl) ha.2.1 (by decide) ?_
  refine ev_i (fun x2 => ?_)
  exact ev_iret (ea_at dt_X1_held 8 rfl) rfl ⟨by decide, by decide⟩ (fun h => hR _ h)
def F_X11_stock : ea_F := (ea_rm 9 2 12, cX11_stock, RX11, some .int, 3, [], 2, 12)
def D_X11_stock : List (Nat × Instr × Nat) := [(0, .aload_n 0, 1), (1, .iload_n 1, 1), (2, .invokevirtual 177, 3), (5, .aload_n 0, 1), (6, .iload_n 2, 1), (7, .invokevirtual 157, 3), (10, .aload_n 0, 1), (11, .getfield 23, 3), (14, .getfield 180, 3), (17, .iload_n 1, 1), (18, .iload_n 2, 1), (19, .invokevirtual 184, 3), (22, .ireturn, 1)]
theorem dt_X11_stock : ∀ q ∈ D_X11_stock, decode cX11_stock q.1 = .ok q.2 := by decide +kernel
theorem mv_X11_stock : ea_MV yX11_stock (F_X11_stock) 2 := ⟨⟨List.mem_append_right _ (List.mem_of_getElem? (i := 1) (by decide +kernel)), List.mem_append_right _ (List.mem_of_getElem? (i := 1018) (by decide +kernel)), ⟨by decide, by decide⟩, by decide +kernel⟩, List.mem_append_right _ (List.mem_of_getElem? (i := 1016) (by decide +kernel)), List.mem_append_right _ (List.mem_of_getElem? (i := 1017) (by decide +kernel))⟩
def f_X11_stock (p1 : Int32) (p2 : Int32) (m : ea_M) : Option (ea_O) :=
  ea_cx (f_X11_needCounsel p1 m) (fun r2 m1 =>
  ea_cx (f_X11_needBird p2 m1) (fun r4 m3 =>
  ea_cl (f_X1_held 8 p1 p2 m3) fun r6 m5 =>
  some (0, r6, m5)) (fun kx mx => some (kx, 0, mx))) (fun kx mx => some (kx, 0, mx))
set_option maxHeartbeats 300000 in
theorem ok_X11_stock (G : ea_G) (p1 : Int32) (p2 : Int32) (m : ea_M)  (zZ : ea_O) (hZ : f_X11_stock p1 p2 m = some zZ) : ea_Met G yX11_stock F_X11_stock [.ref 0, .int p1, .int p2] m zZ := by
  refine ea_met (F := F_X11_stock) (by decide +kernel) rfl rfl (Nat.le_of_ble_eq_true rfl) (by simp only [List.mem_cons, List.not_mem_nil, or_false]; intro v hv; rcases hv with rfl | rfl | rfl <;> rfl) ((?_ : ea_E G F_X11_stock zZ 0 [some (.ref 0), some (.int p1), some (.int p2)] [] m 0 0 (f_X11_stock p1 p2 m) (fun t => t = zZ)) zZ hZ rfl)
  have hR : ∀ t : ea_O, t = zZ → zZ = t := fun t h => h.symm
  unfold f_X11_stock
  refine ev_aload_n (ea_at dt_X11_stock 0 rfl) rfl ?_
  refine ev_iload_n (ea_at dt_X11_stock 1 rfl) rfl ?_
  refine ev_cxU (F1 := F_X11_needCounsel) rfl (fun zY hY => ea_runV (As := [.int p1]) (ea_at dt_X11_stock 2 rfl) ml_X11_177 mv_X11_needCounsel (ok_X11_needCounsel G p1 m  zY hY) sh_0 rfl rfl rfl (Nat.le_of_ble_eq_true rfl) rfl) rfl ⟨by decide, by decide⟩ (fun kx mx t e q => ⟨0, by cases e; exact hR _ q⟩) (fun r2 m1 => ?_)
  refine ev_aload_n (ea_at dt_X11_stock 3 rfl) rfl ?_
  refine ev_iload_n (ea_at dt_X11_stock 4 rfl) rfl ?_
  refine ev_cxU (F1 := F_X11_needBird) rfl (fun zY hY => ea_runV (As := [.int p2]) (ea_at dt_X11_stock 5 rfl) ml_X11_157 mv_X11_needBird (ok_X11_needBird G p2 m1  zY hY) sh_0 rfl rfl rfl (Nat.le_of_ble_eq_true rfl) rfl) rfl ⟨by decide, by decide⟩ (fun kx mx t e q => ⟨0, by cases e; exact hR _ q⟩) (fun r4 m3 => ?_)
  refine ev_aload_n (ea_at dt_X11_stock 6 rfl) rfl ?_
  refine ev_getR (ea_at dt_X11_stock 7 rfl) fl_X11_23 sh_0 rfl ?_
  refine ev_getR (ea_at dt_X11_stock 8 rfl) fl_X11_180 sh_2 rfl ?_
  refine ev_iload_n (ea_at dt_X11_stock 9 rfl) rfl ?_
  refine ev_iload_n (ea_at dt_X11_stock 10 rfl) rfl ?_
  refine ev_clI (F1 := F_X1_held) (fun rY mY hY => ea_runV (As := [.int p1, .int p2]) (ea_at dt_X11_stock 11 rfl) ml_X11_184 mv_X1_held (ok_X1_held G 8 p1 p2 m3 is_Bench_8 rY mY hY) sh_8 rfl rfl rfl (Nat.le_of_ble_eq_true rfl) rfl) rfl (fun r6 m5 => ?_)
  exact ev_iret (ea_at dt_X11_stock 12 rfl) rfl ⟨by decide, by decide⟩ (fun h => hR _ h)
def F_X11_needCase : ea_F := (ea_rm 8 1 6, cX11_needCase, RX11, none, 2, [], 1, 6)
def D_X11_needCase : List (Nat × Instr × Nat) := [(0, .iload_n 1, 1), (1, .ifCond .lt 17, 3), (4, .iload_n 1, 1), (5, .aload_n 0, 1), (6, .getfield 23, 3), (9, .getfield 180, 3), (12, .getfield 239, 3), (15, .if_icmp .lt 14, 3), (18, .new 433, 3), (21, .dup, 1), (22, .ldc_w 440, 3), (25, .invokespecial 437, 3), (28, .athrow, 1), (29, .return_, 1)]
theorem dt_X11_needCase : ∀ q ∈ D_X11_needCase, decode cX11_needCase q.1 = .ok q.2 := by decide +kernel
theorem mv_X11_needCase : ea_MV yX11_needCase (F_X11_needCase) 1 := ⟨⟨List.mem_append_right _ (List.mem_of_getElem? (i := 1) (by decide +kernel)), List.mem_append_right _ (List.mem_of_getElem? (i := 1034) (by decide +kernel)), ⟨by decide, by decide⟩, by decide +kernel⟩, List.mem_append_right _ (List.mem_of_getElem? (i := 1033) (by decide +kernel)), List.mem_append_left _ (List.mem_of_getElem? (i := 27) (by decide +kernel))⟩
def f_X11_needCase (p1 : Int32) (m : ea_M) : Option (ea_O) :=
  if p1 < 0 then
  some (1, 0, m)
  else
  ea_bd (m 8 1) fun x1 =>
  if p1 < x1 then
  some (0, 0, m)
  else
  some (1, 0, m)
set_option maxHeartbeats 300000 in
theorem ok_X11_needCase (G : ea_G) (p1 : Int32) (m : ea_M)  (zZ : ea_O) (hZ : f_X11_needCase p1 m = some zZ) : ea_Met G yX11_needCase F_X11_needCase [.ref 0, .int p1] m zZ := by
  refine ea_met (F := F_X11_needCase) (by decide +kernel) rfl rfl (Nat.le_of_ble_eq_true rfl) (by simp only [List.mem_cons, List.not_mem_nil, or_false]; intro v hv; rcases hv with rfl | rfl <;> rfl) ((?_ : ea_E G F_X11_needCase zZ 0 [some (.ref 0), some (.int p1)] [] m 0 0 (f_X11_needCase p1 m) (fun t => t = zZ)) zZ hZ rfl)
  have hR : ∀ t : ea_O, t = zZ → zZ = t := fun t h => h.symm
  unfold f_X11_needCase
  refine ev_iload_n (ea_at dt_X11_needCase 0 rfl) rfl ?_
  refine ev_if_lt (tgt := 18) (ea_at dt_X11_needCase 1 rfl) rfl (fun _ => ?_) (fun _ => ?_)
  · exact ev_throwSW (kx := 1) (j := 37) (ea_at dt_X11_needCase 8 rfl) (ea_at dt_X11_needCase 9 rfl) (ea_at dt_X11_needCase 10 rfl) (ea_at dt_X11_needCase 11 rfl) (ea_at dt_X11_needCase 12 rfl) rfl (by decide) rfl (by decide +kernel) ea_tw1 cl_X11_433 ini_1 ml_X11_437 rfl ⟨by decide, by decide, by decide, by decide, by decide, by decide⟩ (fun h => ⟨0, hR _ h⟩)
  · refine ev_iload_n (ea_at dt_X11_needCase 2 rfl) rfl ?_
    refine ev_aload_n (ea_at dt_X11_needCase 3 rfl) rfl ?_
    refine ev_getR (ea_at dt_X11_needCase 4 rfl) fl_X11_23 sh_0 rfl ?_
    refine ev_getR (ea_at dt_X11_needCase 5 rfl) fl_X11_180 sh_2 rfl ?_
    refine ev_getI (ea_at dt_X11_needCase 6 rfl) fl_X11_239 sh_8 rfl ?_
    refine ev_i (fun x1 => ?_)
    refine ev_icmp_lt (tgt := 29) (ea_at dt_X11_needCase 7 rfl) rfl (fun _ => ?_) (fun _ => ?_)
    · exact ev_vret (ea_at dt_X11_needCase 13 rfl) rfl ⟨by decide, by decide⟩ (fun h => ⟨0, hR _ h⟩)
    · exact ev_throwSW (kx := 1) (j := 37) (ea_at dt_X11_needCase 8 rfl) (ea_at dt_X11_needCase 9 rfl) (ea_at dt_X11_needCase 10 rfl) (ea_at dt_X11_needCase 11 rfl) (ea_at dt_X11_needCase 12 rfl) rfl (by decide) rfl (by decide +kernel) ea_tw1 cl_X11_433 ini_1 ml_X11_437 rfl ⟨by decide, by decide, by decide, by decide, by decide, by decide⟩ (fun h => ⟨0, hR _ h⟩)
def F_X1_choices : ea_F := (ea_rm 9 0 0, cX1_choices, RX1, some .int, 6, [], 0, 0)
def D_X1_choices : List (Nat × Instr × Nat) := [(0, .iload_n 2, 1), (1, .ifCond .eq 12, 3), (4, .aload_n 0, 1), (5, .getfield 25, 3), (8, .iload_n 1, 1), (9, .iaload, 1), (10, .goto 9, 3), (13, .aload_n 0, 1), (14, .getfield 22, 3), (17, .iload_n 1, 1), (18, .iaload, 1), (19, .istore_n 3, 1), (20, .iconst 0, 1), (21, .istore 4, 2), (23, .iconst 0, 1), (24, .istore 5, 2), (26, .iload 5, 2), (28, .bipush 6, 2), (30, .if_icmp .ge 42, 3), (33, .aload_n 0, 1), (34, .getfield 28, 3), (37, .iload_n 1, 1), (38, .iaload, 1), (39, .iload 5, 2), (41, .ishr, 1), (42, .iconst 1, 1), (43, .iand, 1), (44, .ifCond .eq 22, 3), (47, .aload_n 0, 1), (48, .iload_n 3, 1), (49, .iload 5, 2), (51, .invokevirtual 40, 3), (54, .ifCond .le 12, 3), (57, .iload 4, 2), (59, .iconst 1, 1), (60, .iload 5, 2), (62, .ishl, 1), (63, .ior, 1), (64, .istore 4, 2), (66, .iinc 5 1, 3), (69, .goto (-43), 3), (72, .iload 4, 2), (74, .ireturn, 1)]
theorem dt_X1_choices : ∀ q ∈ D_X1_choices, decode cX1_choices q.1 = .ok q.2 := by decide +kernel
theorem mv_X1_choices : ea_MV yX1_choices (F_X1_choices) 2 := ⟨⟨List.mem_append_right _ (List.mem_of_getElem? (i := 3) (by decide +kernel)), List.mem_append_right _ (List.mem_of_getElem? (i := 1039) (by decide +kernel)), ⟨by decide, by decide⟩, by decide +kernel⟩, List.mem_append_right _ (List.mem_of_getElem? (i := 1037) (by decide +kernel)), List.mem_append_right _ (List.mem_of_getElem? (i := 1038) (by decide +kernel))⟩
def f_X1_choices_j66 (a : Nat) (p1 : Int32) (x2 : Int32) (x6 : Int32) (x7 : Int32) (m8 : ea_M) : Option ((Int32 × Int32 × ea_M) ⊕ (Int32 × ea_M)) :=
  some (.inl (x6, x7 + 1, m8))
def f_X1_choices_s26 (a : Nat) (p1 : Int32) (x2 : Int32)  (s26 : Int32 × Int32 × ea_M) : Option ((Int32 × Int32 × ea_M) ⊕ (Int32 × ea_M)) :=
  if 6 ≤ s26.2.1 then
  some (.inr (s26.1, s26.2.2))
  else
  ea_g p1 12 (ea_bd (s26.2.2 (a + 4) (Int32.toNatClampNeg p1)) fun x4 =>
  ea_bd ((x4 >>> (s26.2.1 &&& 31)) &&& 1) fun x5 =>
  if x5 = 0 then
  f_X1_choices_j66 a p1 x2 s26.1 s26.2.1 s26.2.2
  else
  ea_cl (f_X1_held a x2 s26.2.1 s26.2.2) fun r10 m9 =>
  if r10 ≤ 0 then
  f_X1_choices_j66 a p1 x2 s26.1 s26.2.1 m9
  else
  ea_bd (s26.1 ||| (1 <<< (s26.2.1 &&& 31))) fun x11 =>
  f_X1_choices_j66 a p1 x2 x11 s26.2.1 m9)
def f_X1_choices_j19 (a : Nat) (p1 : Int32) (x2 : Int32) (m3 : ea_M) : Option (Int32 × ea_M) :=
  (ea_loop (f_X1_choices_s26 a p1 x2) ea_fuel (0, 0, m3)).bind (fun x26s =>
  some (x26s.1, x26s.2))
def f_X1_choices (a : Nat) (p1 : Int32) (p2 : Int32) (m : ea_M) : Option (Int32 × ea_M) :=
  if p2 = 0 then
  ea_g p1 12 (ea_bd (m (a + 2) (Int32.toNatClampNeg p1)) fun x1 =>
  f_X1_choices_j19 a p1 x1 m)
  else
  ea_g p1 12 (ea_bd (m (a + 3) (Int32.toNatClampNeg p1)) fun x12 =>
  f_X1_choices_j19 a p1 x12 m)
set_option maxHeartbeats 300000 in
theorem jn_X1_choices_66 (G : ea_G) {res : ea_O}  (a : Nat) (p1 : Int32) (x2 : Int32) (x6 : Int32) (x7 : Int32) (m8 : ea_M) (ha : ea_isBench a) {Φ : ((Int32 × Int32 × ea_M) ⊕ (Int32 × ea_M)) → Prop} (hC : ∀ s26 : Int32 × Int32 × ea_M, Φ (.inl s26) → ea_Ev G F_X1_choices res 26 [some (.ref a), some (.int p1), none, some (.int x2), some (.int s26.1), some (.int s26.2.1)] [] s26.2.2 0 0) (hX : ∀ x26s : Int32 × ea_M, Φ (.inr x26s) → ea_Ev G F_X1_choices res 72 [none, none, none, none, some (.int x26s.1), none] [] x26s.2 0 0) : ea_E G F_X1_choices res 66 [some (.ref a), some (.int p1), none, some (.int x2), some (.int x6), some (.int x7)] [] m8 0 0 (f_X1_choices_j66 a p1 x2 x6 x7 m8) Φ := by
  unfold f_X1_choices_j66
  refine ev_iinc (ls' := [some (.ref a), some (.int p1), none, some (.int x2), some (.int x6), some (.int (x7 + 1))]) (ea_at dt_X1_choices 39 rfl) rfl (congrArg (fun z => _ + z) ic_1) (ea_lt rfl) rfl ?_
  refine ev_goto (tgt := 26) (ea_at dt_X1_choices 40 rfl) rfl ?_
  exact ev_leaf (fun h => ea_drop (l' := [some (.ref a), some (.int p1), none, some (.int x2), some (.int x6), some (.int (x7 + 1))]) ⟨Or.inr rfl, Or.inr rfl, Or.inl rfl, Or.inr rfl, Or.inr rfl, Or.inr rfl, trivial⟩ (hC (x6, x7 + 1, m8) h))
set_option maxHeartbeats 300000 in
theorem lp_X1_choices_26 (G : ea_G) {res : ea_O}  (a : Nat) (p1 : Int32) (x2 : Int32) (ha : ea_isBench a) {Ψ : (Int32 × ea_M) → Prop} (hX : ∀ x26s : Int32 × ea_M, Ψ x26s → ea_Ev G F_X1_choices res 72 [none, none, none, none, some (.int x26s.1), none] [] x26s.2 0 0) : ∀ (f : Nat) (s26 : Int32 × Int32 × ea_M), ea_E G F_X1_choices res 26 [some (.ref a), some (.int p1), none, some (.int x2), some (.int s26.1), some (.int s26.2.1)] [] s26.2.2 0 0 (ea_loop (f_X1_choices_s26 a p1 x2) f s26) Ψ := by
  refine ev_loop (G := G) (F := F_X1_choices) (res := res) (pc := 26) (st := []) (k := 0) (n := 0) (step := (f_X1_choices_s26 a p1 x2)) (Ψ := Ψ) (fun (s26 : Int32 × Int32 × ea_M) => [some (.ref a), some (.int p1), none, some (.int x2), some (.int s26.1), some (.int s26.2.1)]) (fun (s26 : Int32 × Int32 × ea_M) => s26.2.2) (fun s26 => ?_)
  have hC : ∀ s26 : Int32 × Int32 × ea_M, (Sum.elim (fun s26 : Int32 × Int32 × ea_M => ea_Ev G F_X1_choices res 26 [some (.ref a), some (.int p1), none, some (.int x2), some (.int s26.1), some (.int s26.2.1)] [] s26.2.2 0 0) Ψ) (.inl s26) → ea_Ev G F_X1_choices res 26 [some (.ref a), some (.int p1), none, some (.int x2), some (.int s26.1), some (.int s26.2.1)] [] s26.2.2 0 0 := fun _ h => h
  have hX : ∀ x26s : Int32 × ea_M, (Sum.elim (fun s26 : Int32 × Int32 × ea_M => ea_Ev G F_X1_choices res 26 [some (.ref a), some (.int p1), none, some (.int x2), some (.int s26.1), some (.int s26.2.1)] [] s26.2.2 0 0) Ψ) (.inr x26s) → ea_Ev G F_X1_choices res 72 [none, none, none, none, some (.int x26s.1), none] [] x26s.2 0 0 := hX
  unfold f_X1_choices_s26
  refine ev_iload (ea_at dt_X1_choices 16 rfl) rfl ?_
  refine ev_bipush (ea_at dt_X1_choices 17 rfl) bp_6 ?_
  refine ev_icmp_ge (tgt := 72) (ea_at dt_X1_choices 18 rfl) rfl (fun _ => ?_) (fun _ => ?_)
  · exact ev_leaf (fun h => ea_drop (l' := [none, none, none, none, some (.int s26.1), none]) ⟨Or.inl rfl, Or.inl rfl, Or.inl rfl, Or.inl rfl, Or.inr rfl, Or.inl rfl, trivial⟩ (hX (s26.1, s26.2.2) h))
  · refine ev_aload_n (ea_at dt_X1_choices 19 rfl) rfl ?_
    refine ev_getR (ea_at dt_X1_choices 20 rfl) fl_X1_28 ha.1 rfl ?_
    refine ev_iload_n (ea_at dt_X1_choices 21 rfl) rfl ?_
    refine ev_iaload (ea_at dt_X1_choices 22 rfl) ha.2.2.2.2.1 (by decide) ?_
    refine ev_i (fun x4 => ?_)
    refine ev_iload (ea_at dt_X1_choices 23 rfl) rfl ?_
    refine ev_ishr (ea_at dt_X1_choices 24 rfl) ?_
    refine ev_iconst (ea_at dt_X1_choices 25 rfl) ic_1 ?_
    refine ev_iand (ea_at dt_X1_choices 26 rfl) ?_
    refine ev_i (fun x5 => ?_)
    refine ev_if_eq (tgt := 66) (ea_at dt_X1_choices 27 rfl) rfl (fun _ => ?_) (fun _ => ?_)
    · exact ev_drop (l' := [some (.ref a), some (.int p1), none, some (.int x2), some (.int s26.1), some (.int s26.2.1)]) ⟨Or.inr rfl, Or.inr rfl, Or.inl rfl, Or.inr rfl, Or.inr rfl, Or.inr rfl, trivial⟩ (jn_X1_choices_66 G a p1 x2 s26.1 s26.2.1 s26.2.2 ha hC hX)
    · refine ev_aload_n (ea_at dt_X1_choices 28 rfl) rfl ?_
      refine ev_iload_n (ea_at dt_X1_choices 29 rfl) rfl ?_
      refine ev_iload (ea_at dt_X1_choices 30 rfl) rfl ?_
      refine ev_clI (F1 := F_X1_held) (fun rY mY hY => ea_runV (As := [.int x2, .int s26.2.1]) (ea_at dt_X1_choices 31 rfl) ml_X1_40 mv_X1_held (ok_X1_held G a x2 s26.2.1 s26.2.2 ha rY mY hY) ha.1 rfl rfl rfl (Nat.le_of_ble_eq_true rfl) rfl) rfl (fun r10 m9 => ?_)
      refine ev_if_le (tgt := 66) (ea_at dt_X1_choices 32 rfl) rfl (fun _ => ?_) (fun _ => ?_)
      · exact ev_drop (l' := [some (.ref a), some (.int p1), none, some (.int x2), some (.int s26.1), some (.int s26.2.1)]) ⟨Or.inr rfl, Or.inr rfl, Or.inl rfl, Or.inr rfl, Or.inr rfl, Or.inr rfl, trivial⟩ (jn_X1_choices_66 G a p1 x2 s26.1 s26.2.1 m9 ha hC hX)
      · refine ev_iload (ea_at dt_X1_choices 33 rfl) rfl ?_
        refine ev_iconst (ea_at dt_X1_choices 34 rfl) ic_1 ?_
        refine ev_iload (ea_at dt_X1_choices 35 rfl) rfl ?_
        refine ev_ishl (ea_at dt_X1_choices 36 rfl) ?_
        refine ev_ior (ea_at dt_X1_choices 37 rfl) ?_
        refine ev_i (fun x11 => ?_)
        refine ev_istore (ls' := [some (.ref a), some (.int p1), none, some (.int x2), some (.int x11), some (.int s26.2.1)]) (ea_at dt_X1_choices 38 rfl) (ea_lt rfl) rfl ?_
        exact ev_drop (l' := [some (.ref a), some (.int p1), none, some (.int x2), some (.int x11), some (.int s26.2.1)]) ⟨Or.inr rfl, Or.inr rfl, Or.inl rfl, Or.inr rfl, Or.inr rfl, Or.inr rfl, trivial⟩ (jn_X1_choices_66 G a p1 x2 x11 s26.2.1 m9 ha hC hX)
set_option maxHeartbeats 300000 in
theorem jn_X1_choices_19 (G : ea_G) {res : ea_O}  (a : Nat) (p1 : Int32) (x2 : Int32) (m3 : ea_M) (ha : ea_isBench a) {Φ : (Int32 × ea_M) → Prop} (hR : ∀ t : Int32 × ea_M, Φ t → res = (0, t)) : ea_E G F_X1_choices res 19 [some (.ref a), some (.int p1), none, none, none, none] [.int x2] m3 0 0 (f_X1_choices_j19 a p1 x2 m3) Φ := by
  unfold f_X1_choices_j19
  refine ev_istore_n (ls' := [some (.ref a), some (.int p1), none, some (.int x2), none, none]) (ea_at dt_X1_choices 11 rfl) (ea_lt rfl) rfl ?_
  refine ev_iconst (ea_at dt_X1_choices 12 rfl) ic_0 ?_
  refine ev_istore (ls' := [some (.ref a), some (.int p1), none, some (.int x2), some (.int 0), none]) (ea_at dt_X1_choices 13 rfl) (ea_lt rfl) rfl ?_
  refine ev_iconst (ea_at dt_X1_choices 14 rfl) ic_0 ?_
  refine ev_istore (ls' := [some (.ref a), some (.int p1), none, some (.int x2), some (.int 0), some (.int 0)]) (ea_at dt_X1_choices 15 rfl) (ea_lt rfl) rfl ?_
  refine ev_drop (l' := [some (.ref a), some (.int p1), none, some (.int x2), some (.int 0), some (.int 0)]) ⟨Or.inr rfl, Or.inr rfl, Or.inl rfl, Or.inr rfl, Or.inr rfl, Or.inr rfl, trivial⟩ ?_
  refine ev_bind (lp_X1_choices_26 G a p1 x2 ha  (fun x26s h => ?_) ea_fuel (0, 0, m3))
  obtain ⟨t1, e1, q1⟩ := h
  refine (?_ : ea_E G F_X1_choices res 72 [none, none, none, none, some (.int x26s.1), none] [] x26s.2 0 0 _ Φ) t1 e1 q1
  refine ev_iload (ea_at dt_X1_choices 41 rfl) rfl ?_
  exact ev_iret (ea_at dt_X1_choices 42 rfl) rfl ⟨by decide, by decide⟩ (fun h => hR _ h)
set_option maxHeartbeats 300000 in
theorem ok_X1_choices (G : ea_G) (a : Nat) (p1 : Int32) (p2 : Int32) (m : ea_M) (ha : ea_isBench a) (rZ : Int32) (mZ : ea_M) (hZ : f_X1_choices a p1 p2 m = some (rZ, mZ)) : ea_Met G yX1_choices F_X1_choices [.ref a, .int p1, .int p2] m (0, rZ, mZ) := by
  refine ea_met (F := F_X1_choices) (by decide +kernel) rfl rfl (Nat.le_of_ble_eq_true rfl) (by simp only [List.mem_cons, List.not_mem_nil, or_false]; intro v hv; rcases hv with rfl | rfl | rfl <;> rfl) ((?_ : ea_E G F_X1_choices (0, rZ, mZ) 0 [some (.ref a), some (.int p1), some (.int p2), none, none, none] [] m 0 0 (f_X1_choices a p1 p2 m) (fun t => t = (rZ, mZ))) (rZ, mZ) hZ rfl)
  have hR : ∀ t : Int32 × ea_M, t = (rZ, mZ) → ((0, rZ, mZ) : ea_O) = (0, t) := fun t h => by rw [h]
  unfold f_X1_choices
  refine ev_iload_n (ea_at dt_X1_choices 0 rfl) rfl ?_
  refine ev_if_eq (tgt := 13) (ea_at dt_X1_choices 1 rfl) rfl (fun _ => ?_) (fun _ => ?_)
  · refine ev_aload_n (ea_at dt_X1_choices 7 rfl) rfl ?_
    refine ev_getR (ea_at dt_X1_choices 8 rfl) fl_X1_22 ha.1 rfl ?_
    refine ev_iload_n (ea_at dt_X1_choices 9 rfl) rfl ?_
    refine ev_iaload (ea_at dt_X1_choices 10 rfl) ha.2.2.1 (by decide) ?_
    refine ev_i (fun x1 => ?_)
    exact ev_drop (l' := [some (.ref a), some (.int p1), none, none, none, none]) ⟨Or.inr rfl, Or.inr rfl, Or.inl rfl, Or.inl rfl, Or.inl rfl, Or.inl rfl, trivial⟩ (jn_X1_choices_19 G a p1 x1 m ha hR)
  · refine ev_aload_n (ea_at dt_X1_choices 2 rfl) rfl ?_
    refine ev_getR (ea_at dt_X1_choices 3 rfl) fl_X1_25 ha.1 rfl ?_
    refine ev_iload_n (ea_at dt_X1_choices 4 rfl) rfl ?_
    refine ev_iaload (ea_at dt_X1_choices 5 rfl) ha.2.2.2.1 (by decide) ?_
    refine ev_i (fun x12 => ?_)
    refine ev_goto (tgt := 19) (ea_at dt_X1_choices 6 rfl) rfl ?_
    exact ev_drop (l' := [some (.ref a), some (.int p1), none, none, none, none]) ⟨Or.inr rfl, Or.inr rfl, Or.inl rfl, Or.inl rfl, Or.inl rfl, Or.inl rfl, trivial⟩ (jn_X1_choices_19 G a p1 x12 m ha hR)
def F_X11_matter : ea_F := (ea_rm 10 2 12, cX11_matter, RX11, some .int, 4, [], 2, 12)
def D_X11_matter : List (Nat × Instr × Nat) := [(0, .aload_n 0, 1), (1, .iload_n 1, 1), (2, .invokevirtual 190, 3), (5, .aload_n 0, 1), (6, .getfield 23, 3), (9, .getfield 180, 3), (12, .astore_n 3, 1), (13, .iload_n 2, 1), (14, .tableswitch 80 0 5 #[38, 45, 52, 59, 66, 73], 38), (52, .aload_n 3, 1), (53, .getfield 193, 3), (56, .iload_n 1, 1), (57, .iaload, 1), (58, .ireturn, 1), (59, .aload_n 3, 1), (60, .getfield 196, 3), (63, .iload_n 1, 1), (64, .iaload, 1), (65, .ireturn, 1), (66, .aload_n 3, 1), (67, .getfield 199, 3), (70, .iload_n 1, 1), (71, .iaload, 1), (72, .ireturn, 1), (73, .aload_n 3, 1), (74, .getfield 202, 3), (77, .iload_n 1, 1), (78, .iaload, 1), (79, .ireturn, 1), (80, .aload_n 3, 1), (81, .iload_n 1, 1), (82, .iconst 0, 1), (83, .invokevirtual 205, 3), (86, .ireturn, 1), (87, .aload_n 3, 1), (88, .iload_n 1, 1), (89, .iconst 1, 1), (90, .invokevirtual 205, 3), (93, .ireturn, 1), (94, .new 172, 3), (97, .dup, 1), (98, .ldc 174, 2), (100, .invokespecial 176, 3), (103, .athrow, 1)]
theorem dt_X11_matter : ∀ q ∈ D_X11_matter, decode cX11_matter q.1 = .ok q.2 := by decide +kernel
theorem mv_X11_matter : ea_MV yX11_matter (F_X11_matter) 2 := ⟨⟨List.mem_append_right _ (List.mem_of_getElem? (i := 1) (by decide +kernel)), List.mem_append_right _ (List.mem_of_getElem? (i := 1030) (by decide +kernel)), ⟨by decide, by decide⟩, by decide +kernel⟩, List.mem_append_right _ (List.mem_of_getElem? (i := 1028) (by decide +kernel)), List.mem_append_right _ (List.mem_of_getElem? (i := 1029) (by decide +kernel))⟩
def f_X11_matter (p1 : Int32) (p2 : Int32) (m : ea_M) : Option (ea_O) :=
  ea_cx (f_X11_needCase p1 m) (fun r2 m1 =>
  if p2 = 0 then
  ea_g p1 12 (ea_bd (m1 10 (Int32.toNatClampNeg p1)) fun x3 =>
  some (0, x3, m1))
  else
  if p2 = 1 then
  ea_g p1 12 (ea_bd (m1 11 (Int32.toNatClampNeg p1)) fun x4 =>
  some (0, x4, m1))
  else
  if p2 = 2 then
  ea_g p1 12 (ea_bd (m1 12 (Int32.toNatClampNeg p1)) fun x5 =>
  some (0, x5, m1))
  else
  if p2 = 3 then
  ea_g p1 12 (ea_bd (m1 13 (Int32.toNatClampNeg p1)) fun x6 =>
  some (0, x6, m1))
  else
  if p2 = 4 then
  ea_cl (f_X1_choices 8 p1 0 m1) fun r8 m7 =>
  some (0, r8, m7)
  else
  if p2 = 5 then
  ea_cl (f_X1_choices 8 p1 1 m1) fun r10 m9 =>
  some (0, r10, m9)
  else
  some (4, 0, m1)) (fun kx mx => some (kx, 0, mx))
set_option maxHeartbeats 300000 in
theorem ok_X11_matter (G : ea_G) (p1 : Int32) (p2 : Int32) (m : ea_M)  (zZ : ea_O) (hZ : f_X11_matter p1 p2 m = some zZ) : ea_Met G yX11_matter F_X11_matter [.ref 0, .int p1, .int p2] m zZ := by
  refine ea_met (F := F_X11_matter) (by decide +kernel) rfl rfl (Nat.le_of_ble_eq_true rfl) (by simp only [List.mem_cons, List.not_mem_nil, or_false]; intro v hv; rcases hv with rfl | rfl | rfl <;> rfl) ((?_ : ea_E G F_X11_matter zZ 0 [some (.ref 0), some (.int p1), some (.int p2), none] [] m 0 0 (f_X11_matter p1 p2 m) (fun t => t = zZ)) zZ hZ rfl)
  have hR : ∀ t : ea_O, t = zZ → zZ = t := fun t h => h.symm
  unfold f_X11_matter
  refine ev_aload_n (ea_at dt_X11_matter 0 rfl) rfl ?_
  refine ev_iload_n (ea_at dt_X11_matter 1 rfl) rfl ?_
  refine ev_cxU (F1 := F_X11_needCase) rfl (fun zY hY => ea_runV (As := [.int p1]) (ea_at dt_X11_matter 2 rfl) ml_X11_190 mv_X11_needCase (ok_X11_needCase G p1 m  zY hY) sh_0 rfl rfl rfl (Nat.le_of_ble_eq_true rfl) rfl) rfl ⟨by decide, by decide⟩ (fun kx mx t e q => ⟨0, by cases e; exact hR _ q⟩) (fun r2 m1 => ?_)
  refine ev_aload_n (ea_at dt_X11_matter 3 rfl) rfl ?_
  refine ev_getR (ea_at dt_X11_matter 4 rfl) fl_X11_23 sh_0 rfl ?_
  refine ev_getR (ea_at dt_X11_matter 5 rfl) fl_X11_180 sh_2 rfl ?_
  refine ev_astore_n (ls' := [some (.ref 0), some (.int p1), some (.int p2), some (.ref 8)]) (ea_at dt_X11_matter 6 rfl) (ea_lt rfl) rfl ?_
  refine ev_iload_n (ea_at dt_X11_matter 7 rfl) rfl ?_
  refine ev_ite (fun n0 => ?_) (fun n0 => ?_)
  · refine ev_tsw (c := 0) (tgt := 52) n0 (ea_at dt_X11_matter 8 rfl) (by decide) (by decide) rfl rfl ?_
    refine ev_aload_n (ea_at dt_X11_matter 9 rfl) rfl ?_
    refine ev_getR (ea_at dt_X11_matter 10 rfl) fl_X11_193 sh_8 rfl ?_
    refine ev_iload_n (ea_at dt_X11_matter 11 rfl) rfl ?_
    refine ev_iaload (ea_at dt_X11_matter 12 rfl) sh_10 (by decide) ?_
    refine ev_i (fun x3 => ?_)
    exact ev_iret (ea_at dt_X11_matter 13 rfl) rfl ⟨by decide, by decide⟩ (fun h => hR _ h)
  · refine ev_ite (fun n1 => ?_) (fun n1 => ?_)
    · refine ev_tsw (c := 1) (tgt := 59) n1 (ea_at dt_X11_matter 8 rfl) (by decide) (by decide) rfl rfl ?_
      refine ev_aload_n (ea_at dt_X11_matter 14 rfl) rfl ?_
      refine ev_getR (ea_at dt_X11_matter 15 rfl) fl_X11_196 sh_8 rfl ?_
      refine ev_iload_n (ea_at dt_X11_matter 16 rfl) rfl ?_
      refine ev_iaload (ea_at dt_X11_matter 17 rfl) sh_11 (by decide) ?_
      refine ev_i (fun x4 => ?_)
      exact ev_iret (ea_at dt_X11_matter 18 rfl) rfl ⟨by decide, by decide⟩ (fun h => hR _ h)
    · refine ev_ite (fun n2 => ?_) (fun n2 => ?_)
      · refine ev_tsw (c := 2) (tgt := 66) n2 (ea_at dt_X11_matter 8 rfl) (by decide) (by decide) rfl rfl ?_
        refine ev_aload_n (ea_at dt_X11_matter 19 rfl) rfl ?_
        refine ev_getR (ea_at dt_X11_matter 20 rfl) fl_X11_199 sh_8 rfl ?_
        refine ev_iload_n (ea_at dt_X11_matter 21 rfl) rfl ?_
        refine ev_iaload (ea_at dt_X11_matter 22 rfl) sh_12 (by decide) ?_
        refine ev_i (fun x5 => ?_)
        exact ev_iret (ea_at dt_X11_matter 23 rfl) rfl ⟨by decide, by decide⟩ (fun h => hR _ h)
      · refine ev_ite (fun n3 => ?_) (fun n3 => ?_)
        · refine ev_tsw (c := 3) (tgt := 73) n3 (ea_at dt_X11_matter 8 rfl) (by decide) (by decide) rfl rfl ?_
          refine ev_aload_n (ea_at dt_X11_matter 24 rfl) rfl ?_
          refine ev_getR (ea_at dt_X11_matter 25 rfl) fl_X11_202 sh_8 rfl ?_
          refine ev_iload_n (ea_at dt_X11_matter 26 rfl) rfl ?_
          refine ev_iaload (ea_at dt_X11_matter 27 rfl) sh_13 (by decide) ?_
          refine ev_i (fun x6 => ?_)
          exact ev_iret (ea_at dt_X11_matter 28 rfl) rfl ⟨by decide, by decide⟩ (fun h => hR _ h)
        · refine ev_ite (fun n4 => ?_) (fun n4 => ?_)
          · refine ev_tsw (c := 4) (tgt := 80) n4 (ea_at dt_X11_matter 8 rfl) (by decide) (by decide) rfl rfl ?_
            refine ev_aload_n (ea_at dt_X11_matter 29 rfl) rfl ?_
            refine ev_iload_n (ea_at dt_X11_matter 30 rfl) rfl ?_
            refine ev_iconst (ea_at dt_X11_matter 31 rfl) ic_0 ?_
            refine ev_clI (F1 := F_X1_choices) (fun rY mY hY => ea_runV (As := [.int p1, .int 0]) (ea_at dt_X11_matter 32 rfl) ml_X11_205 mv_X1_choices (ok_X1_choices G 8 p1 0 m1 is_Bench_8 rY mY hY) sh_8 rfl rfl rfl (Nat.le_of_ble_eq_true rfl) rfl) rfl (fun r8 m7 => ?_)
            exact ev_iret (ea_at dt_X11_matter 33 rfl) rfl ⟨by decide, by decide⟩ (fun h => hR _ h)
          · refine ev_ite (fun n5 => ?_) (fun n5 => ?_)
            · refine ev_tsw (c := 5) (tgt := 87) n5 (ea_at dt_X11_matter 8 rfl) (by decide) (by decide) rfl rfl ?_
              refine ev_aload_n (ea_at dt_X11_matter 34 rfl) rfl ?_
              refine ev_iload_n (ea_at dt_X11_matter 35 rfl) rfl ?_
              refine ev_iconst (ea_at dt_X11_matter 36 rfl) ic_1 ?_
              refine ev_clI (F1 := F_X1_choices) (fun rY mY hY => ea_runV (As := [.int p1, .int 1]) (ea_at dt_X11_matter 37 rfl) ml_X11_205 mv_X1_choices (ok_X1_choices G 8 p1 1 m1 is_Bench_8 rY mY hY) sh_8 rfl rfl rfl (Nat.le_of_ble_eq_true rfl) rfl) rfl (fun r10 m9 => ?_)
              exact ev_iret (ea_at dt_X11_matter 38 rfl) rfl ⟨by decide, by decide⟩ (fun h => hR _ h)
            · refine ev_tswOut (cnt := 6) (tgt := 94) (ea_at dt_X11_matter 8 rfl) rfl (ea_nS (ea_nS (ea_nS (ea_nS (ea_nS (ea_nS (ea_nZ) (v := 0) (by decide) n0) (v := 1) (by decide) n1) (v := 2) (by decide) n2) (v := 3) (by decide) n3) (v := 4) (by decide) n4) (v := 5) (by decide) n5) rfl ?_
              exact ev_throwN (kx := 4) (j := 35) (ea_at dt_X11_matter 39 rfl) (ea_at dt_X11_matter 40 rfl) (ea_at dt_X11_matter 41 rfl) (ea_at dt_X11_matter 42 rfl) (ea_at dt_X11_matter 43 rfl) rfl (by decide) rfl cl_X11_172 ini_4 ml_X11_176 rfl ⟨by decide, by decide, by decide, by decide, by decide, by decide⟩ (fun h => ⟨0, hR _ h⟩)
def F_X11_needLevel : ea_F := (ea_rm 8 1 6, cX11_needLevel, RX11, none, 3, [], 1, 6)
def D_X11_needLevel : List (Nat × Instr × Nat) := [(0, .iload_n 1, 1), (1, .iload_n 2, 1), (2, .if_icmp .lt 9, 3), (5, .iload_n 1, 1), (6, .bipush 13, 2), (8, .if_icmp .lt 14, 3), (11, .new 433, 3), (14, .dup, 1), (15, .ldc_w 444, 3), (18, .invokespecial 437, 3), (21, .athrow, 1), (22, .return_, 1)]
theorem dt_X11_needLevel : ∀ q ∈ D_X11_needLevel, decode cX11_needLevel q.1 = .ok q.2 := by decide +kernel
theorem mv_X11_needLevel : ea_MV yX11_needLevel (F_X11_needLevel) 2 := ⟨⟨List.mem_append_right _ (List.mem_of_getElem? (i := 1) (by decide +kernel)), List.mem_append_right _ (List.mem_of_getElem? (i := 1051) (by decide +kernel)), ⟨by decide, by decide⟩, by decide +kernel⟩, List.mem_append_right _ (List.mem_of_getElem? (i := 1050) (by decide +kernel)), List.mem_append_left _ (List.mem_of_getElem? (i := 28) (by decide +kernel))⟩
def f_X11_needLevel (p1 : Int32) (p2 : Int32) (m : ea_M) : Option (ea_O) :=
  if p1 < p2 then
  some (1, 0, m)
  else
  if p1 < 13 then
  some (0, 0, m)
  else
  some (1, 0, m)
set_option maxHeartbeats 300000 in
theorem ok_X11_needLevel (G : ea_G) (p1 : Int32) (p2 : Int32) (m : ea_M)  (zZ : ea_O) (hZ : f_X11_needLevel p1 p2 m = some zZ) : ea_Met G yX11_needLevel F_X11_needLevel [.ref 0, .int p1, .int p2] m zZ := by
  refine ea_met (F := F_X11_needLevel) (by decide +kernel) rfl rfl (Nat.le_of_ble_eq_true rfl) (by simp only [List.mem_cons, List.not_mem_nil, or_false]; intro v hv; rcases hv with rfl | rfl | rfl <;> rfl) ((?_ : ea_E G F_X11_needLevel zZ 0 [some (.ref 0), some (.int p1), some (.int p2)] [] m 0 0 (f_X11_needLevel p1 p2 m) (fun t => t = zZ)) zZ hZ rfl)
  have hR : ∀ t : ea_O, t = zZ → zZ = t := fun t h => h.symm
  unfold f_X11_needLevel
  refine ev_iload_n (ea_at dt_X11_needLevel 0 rfl) rfl ?_
  refine ev_iload_n (ea_at dt_X11_needLevel 1 rfl) rfl ?_
  refine ev_icmp_lt (tgt := 11) (ea_at dt_X11_needLevel 2 rfl) rfl (fun _ => ?_) (fun _ => ?_)
  · exact ev_throwSW (kx := 1) (j := 38) (ea_at dt_X11_needLevel 6 rfl) (ea_at dt_X11_needLevel 7 rfl) (ea_at dt_X11_needLevel 8 rfl) (ea_at dt_X11_needLevel 9 rfl) (ea_at dt_X11_needLevel 10 rfl) rfl (by decide) rfl (by decide +kernel) ea_tw1 cl_X11_433 ini_1 ml_X11_437 rfl ⟨by decide, by decide, by decide, by decide, by decide, by decide⟩ (fun h => ⟨0, hR _ h⟩)
  · refine ev_iload_n (ea_at dt_X11_needLevel 3 rfl) rfl ?_
    refine ev_bipush (ea_at dt_X11_needLevel 4 rfl) bp_13 ?_
    refine ev_icmp_lt (tgt := 22) (ea_at dt_X11_needLevel 5 rfl) rfl (fun _ => ?_) (fun _ => ?_)
    · exact ev_vret (ea_at dt_X11_needLevel 11 rfl) rfl ⟨by decide, by decide⟩ (fun h => ⟨0, hR _ h⟩)
    · exact ev_throwSW (kx := 1) (j := 38) (ea_at dt_X11_needLevel 6 rfl) (ea_at dt_X11_needLevel 7 rfl) (ea_at dt_X11_needLevel 8 rfl) (ea_at dt_X11_needLevel 9 rfl) (ea_at dt_X11_needLevel 10 rfl) rfl (by decide) rfl (by decide +kernel) ea_tw1 cl_X11_433 ini_1 ml_X11_437 rfl ⟨by decide, by decide, by decide, by decide, by decide, by decide⟩ (fun h => ⟨0, hR _ h⟩)
def F_X11_wind : ea_F := (ea_rm 9 1 6, cX11_wind, RX11, some .int, 2, [], 1, 6)
def D_X11_wind : List (Nat × Instr × Nat) := [(0, .aload_n 0, 1), (1, .iload_n 1, 1), (2, .iconst 0, 1), (3, .invokevirtual 209, 3), (6, .aload_n 0, 1), (7, .getfield 23, 3), (10, .getfield 213, 3), (13, .iload_n 1, 1), (14, .iaload, 1), (15, .ireturn, 1)]
theorem dt_X11_wind : ∀ q ∈ D_X11_wind, decode cX11_wind q.1 = .ok q.2 := by decide +kernel
theorem mv_X11_wind : ea_MV yX11_wind (F_X11_wind) 1 := ⟨⟨List.mem_append_right _ (List.mem_of_getElem? (i := 1) (by decide +kernel)), List.mem_append_right _ (List.mem_of_getElem? (i := 1047) (by decide +kernel)), ⟨by decide, by decide⟩, by decide +kernel⟩, List.mem_append_right _ (List.mem_of_getElem? (i := 1045) (by decide +kernel)), List.mem_append_right _ (List.mem_of_getElem? (i := 1046) (by decide +kernel))⟩
def f_X11_wind (p1 : Int32) (m : ea_M) : Option (ea_O) :=
  ea_cx (f_X11_needLevel p1 0 m) (fun r2 m1 =>
  ea_g p1 13 (ea_bd (m1 3 (Int32.toNatClampNeg p1)) fun x3 =>
  some (0, x3, m1))) (fun kx mx => some (kx, 0, mx))
set_option maxHeartbeats 300000 in
theorem ok_X11_wind (G : ea_G) (p1 : Int32) (m : ea_M)  (zZ : ea_O) (hZ : f_X11_wind p1 m = some zZ) : ea_Met G yX11_wind F_X11_wind [.ref 0, .int p1] m zZ := by
  refine ea_met (F := F_X11_wind) (by decide +kernel) rfl rfl (Nat.le_of_ble_eq_true rfl) (by simp only [List.mem_cons, List.not_mem_nil, or_false]; intro v hv; rcases hv with rfl | rfl <;> rfl) ((?_ : ea_E G F_X11_wind zZ 0 [some (.ref 0), some (.int p1)] [] m 0 0 (f_X11_wind p1 m) (fun t => t = zZ)) zZ hZ rfl)
  have hR : ∀ t : ea_O, t = zZ → zZ = t := fun t h => h.symm
  unfold f_X11_wind
  refine ev_aload_n (ea_at dt_X11_wind 0 rfl) rfl ?_
  refine ev_iload_n (ea_at dt_X11_wind 1 rfl) rfl ?_
  refine ev_iconst (ea_at dt_X11_wind 2 rfl) ic_0 ?_
  refine ev_cxU (F1 := F_X11_needLevel) rfl (fun zY hY => ea_runV (As := [.int p1, .int 0]) (ea_at dt_X11_wind 3 rfl) ml_X11_209 mv_X11_needLevel (ok_X11_needLevel G p1 0 m  zY hY) sh_0 rfl rfl rfl (Nat.le_of_ble_eq_true rfl) rfl) rfl ⟨by decide, by decide⟩ (fun kx mx t e q => ⟨0, by cases e; exact hR _ q⟩) (fun r2 m1 => ?_)
  refine ev_aload_n (ea_at dt_X11_wind 4 rfl) rfl ?_
  refine ev_getR (ea_at dt_X11_wind 5 rfl) fl_X11_23 sh_0 rfl ?_
  refine ev_getR (ea_at dt_X11_wind 6 rfl) fl_X11_213 sh_2 rfl ?_
  refine ev_iload_n (ea_at dt_X11_wind 7 rfl) rfl ?_
  refine ev_iaload (ea_at dt_X11_wind 8 rfl) sh_3 (by decide) ?_
  refine ev_i (fun x3 => ?_)
  exact ev_iret (ea_at dt_X11_wind 9 rfl) rfl ⟨by decide, by decide⟩ (fun h => hR _ h)
def F_X11_needColumn : ea_F := (ea_rm 8 1 6, cX11_needColumn, RX11, none, 2, [], 1, 6)
def D_X11_needColumn : List (Nat × Instr × Nat) := [(0, .iload_n 1, 1), (1, .ifCond .lt 9, 3), (4, .iload_n 1, 1), (5, .bipush 16, 2), (7, .if_icmp .lt 14, 3), (10, .new 433, 3), (13, .dup, 1), (14, .ldc_w 446, 3), (17, .invokespecial 437, 3), (20, .athrow, 1), (21, .return_, 1)]
theorem dt_X11_needColumn : ∀ q ∈ D_X11_needColumn, decode cX11_needColumn q.1 = .ok q.2 := by decide +kernel
theorem mv_X11_needColumn : ea_MV yX11_needColumn (F_X11_needColumn) 1 := ⟨⟨List.mem_append_right _ (List.mem_of_getElem? (i := 1) (by decide +kernel)), List.mem_append_right _ (List.mem_of_getElem? (i := 1063) (by decide +kernel)), ⟨by decide, by decide⟩, by decide +kernel⟩, List.mem_append_right _ (List.mem_of_getElem? (i := 1062) (by decide +kernel)), List.mem_append_left _ (List.mem_of_getElem? (i := 29) (by decide +kernel))⟩
def f_X11_needColumn (p1 : Int32) (m : ea_M) : Option (ea_O) :=
  if p1 < 0 then
  some (1, 0, m)
  else
  if p1 < 16 then
  some (0, 0, m)
  else
  some (1, 0, m)
set_option maxHeartbeats 300000 in
theorem ok_X11_needColumn (G : ea_G) (p1 : Int32) (m : ea_M)  (zZ : ea_O) (hZ : f_X11_needColumn p1 m = some zZ) : ea_Met G yX11_needColumn F_X11_needColumn [.ref 0, .int p1] m zZ := by
  refine ea_met (F := F_X11_needColumn) (by decide +kernel) rfl rfl (Nat.le_of_ble_eq_true rfl) (by simp only [List.mem_cons, List.not_mem_nil, or_false]; intro v hv; rcases hv with rfl | rfl <;> rfl) ((?_ : ea_E G F_X11_needColumn zZ 0 [some (.ref 0), some (.int p1)] [] m 0 0 (f_X11_needColumn p1 m) (fun t => t = zZ)) zZ hZ rfl)
  have hR : ∀ t : ea_O, t = zZ → zZ = t := fun t h => h.symm
  unfold f_X11_needColumn
  refine ev_iload_n (ea_at dt_X11_needColumn 0 rfl) rfl ?_
  refine ev_if_lt (tgt := 10) (ea_at dt_X11_needColumn 1 rfl) rfl (fun _ => ?_) (fun _ => ?_)
  · exact ev_throwSW (kx := 1) (j := 39) (ea_at dt_X11_needColumn 5 rfl) (ea_at dt_X11_needColumn 6 rfl) (ea_at dt_X11_needColumn 7 rfl) (ea_at dt_X11_needColumn 8 rfl) (ea_at dt_X11_needColumn 9 rfl) rfl (by decide) rfl (by decide +kernel) ea_tw1 cl_X11_433 ini_1 ml_X11_437 rfl ⟨by decide, by decide, by decide, by decide, by decide, by decide⟩ (fun h => ⟨0, hR _ h⟩)
  · refine ev_iload_n (ea_at dt_X11_needColumn 2 rfl) rfl ?_
    refine ev_bipush (ea_at dt_X11_needColumn 3 rfl) bp_16 ?_
    refine ev_icmp_lt (tgt := 21) (ea_at dt_X11_needColumn 4 rfl) rfl (fun _ => ?_) (fun _ => ?_)
    · exact ev_vret (ea_at dt_X11_needColumn 10 rfl) rfl ⟨by decide, by decide⟩ (fun h => ⟨0, hR _ h⟩)
    · exact ev_throwSW (kx := 1) (j := 39) (ea_at dt_X11_needColumn 5 rfl) (ea_at dt_X11_needColumn 6 rfl) (ea_at dt_X11_needColumn 7 rfl) (ea_at dt_X11_needColumn 8 rfl) (ea_at dt_X11_needColumn 9 rfl) rfl (by decide) rfl (by decide +kernel) ea_tw1 cl_X11_433 ini_1 ml_X11_437 rfl ⟨by decide, by decide, by decide, by decide, by decide, by decide⟩ (fun h => ⟨0, hR _ h⟩)
def F_X11_needWithin : ea_F := (ea_rm 8 1 6, cX11_needWithin, RX11, none, 4, [], 1, 6)
def D_X11_needWithin : List (Nat × Instr × Nat) := [(0, .iload_n 1, 1), (1, .iload_n 2, 1), (2, .if_icmp .lt 8, 3), (5, .iload_n 1, 1), (6, .iload_n 3, 1), (7, .if_icmp .le 14, 3), (10, .new 129, 3), (13, .dup, 1), (14, .ldc_w 448, 3), (17, .invokespecial 133, 3), (20, .athrow, 1), (21, .return_, 1)]
theorem dt_X11_needWithin : ∀ q ∈ D_X11_needWithin, decode cX11_needWithin q.1 = .ok q.2 := by decide +kernel
theorem mv_X11_needWithin : ea_MV yX11_needWithin (F_X11_needWithin) 3 := ⟨⟨List.mem_append_right _ (List.mem_of_getElem? (i := 1) (by decide +kernel)), List.mem_append_right _ (List.mem_of_getElem? (i := 1068) (by decide +kernel)), ⟨by decide, by decide⟩, by decide +kernel⟩, List.mem_append_right _ (List.mem_of_getElem? (i := 1067) (by decide +kernel)), List.mem_append_left _ (List.mem_of_getElem? (i := 30) (by decide +kernel))⟩
def f_X11_needWithin (p1 : Int32) (p2 : Int32) (p3 : Int32) (m : ea_M) : Option (ea_O) :=
  if p1 < p2 then
  some (2, 0, m)
  else
  if p1 ≤ p3 then
  some (0, 0, m)
  else
  some (2, 0, m)
set_option maxHeartbeats 300000 in
theorem ok_X11_needWithin (G : ea_G) (p1 : Int32) (p2 : Int32) (p3 : Int32) (m : ea_M)  (zZ : ea_O) (hZ : f_X11_needWithin p1 p2 p3 m = some zZ) : ea_Met G yX11_needWithin F_X11_needWithin [.ref 0, .int p1, .int p2, .int p3] m zZ := by
  refine ea_met (F := F_X11_needWithin) (by decide +kernel) rfl rfl (Nat.le_of_ble_eq_true rfl) (by simp only [List.mem_cons, List.not_mem_nil, or_false]; intro v hv; rcases hv with rfl | rfl | rfl | rfl <;> rfl) ((?_ : ea_E G F_X11_needWithin zZ 0 [some (.ref 0), some (.int p1), some (.int p2), some (.int p3)] [] m 0 0 (f_X11_needWithin p1 p2 p3 m) (fun t => t = zZ)) zZ hZ rfl)
  have hR : ∀ t : ea_O, t = zZ → zZ = t := fun t h => h.symm
  unfold f_X11_needWithin
  refine ev_iload_n (ea_at dt_X11_needWithin 0 rfl) rfl ?_
  refine ev_iload_n (ea_at dt_X11_needWithin 1 rfl) rfl ?_
  refine ev_icmp_lt (tgt := 10) (ea_at dt_X11_needWithin 2 rfl) rfl (fun _ => ?_) (fun _ => ?_)
  · exact ev_throwSW (kx := 2) (j := 40) (ea_at dt_X11_needWithin 6 rfl) (ea_at dt_X11_needWithin 7 rfl) (ea_at dt_X11_needWithin 8 rfl) (ea_at dt_X11_needWithin 9 rfl) (ea_at dt_X11_needWithin 10 rfl) rfl (by decide) rfl (by decide +kernel) ea_tw2 cl_X11_129 ini_2 ml_X11_133 rfl ⟨by decide, by decide, by decide, by decide, by decide, by decide⟩ (fun h => ⟨0, hR _ h⟩)
  · refine ev_iload_n (ea_at dt_X11_needWithin 3 rfl) rfl ?_
    refine ev_iload_n (ea_at dt_X11_needWithin 4 rfl) rfl ?_
    refine ev_icmp_le (tgt := 21) (ea_at dt_X11_needWithin 5 rfl) rfl (fun _ => ?_) (fun _ => ?_)
    · exact ev_vret (ea_at dt_X11_needWithin 11 rfl) rfl ⟨by decide, by decide⟩ (fun h => ⟨0, hR _ h⟩)
    · exact ev_throwSW (kx := 2) (j := 40) (ea_at dt_X11_needWithin 6 rfl) (ea_at dt_X11_needWithin 7 rfl) (ea_at dt_X11_needWithin 8 rfl) (ea_at dt_X11_needWithin 9 rfl) (ea_at dt_X11_needWithin 10 rfl) rfl (by decide) rfl (by decide +kernel) ea_tw2 cl_X11_129 ini_2 ml_X11_133 rfl ⟨by decide, by decide, by decide, by decide, by decide, by decide⟩ (fun h => ⟨0, hR _ h⟩)
def F_X2_isYard : ea_F := (ea_rm 8 0 0, cX2_isYard, RX2, some .boolean, 2, [], 0, 0)
def D_X2_isYard : List (Nat × Instr × Nat) := [(0, .iload_n 1, 1), (1, .aload_n 0, 1), (2, .getfield 18, 3), (5, .if_icmp .lt 15, 3), (8, .iload_n 1, 1), (9, .aload_n 0, 1), (10, .getfield 21, 3), (13, .if_icmp .gt 7, 3), (16, .iconst 1, 1), (17, .goto 4, 3), (20, .iconst 0, 1), (21, .ireturn, 1)]
theorem dt_X2_isYard : ∀ q ∈ D_X2_isYard, decode cX2_isYard q.1 = .ok q.2 := by decide +kernel
theorem mv_X2_isYard : ea_MV yX2_isYard (F_X2_isYard) 1 := ⟨⟨List.mem_append_right _ (List.mem_of_getElem? (i := 2) (by decide +kernel)), List.mem_append_right _ (List.mem_of_getElem? (i := 536) (by decide +kernel)), ⟨by decide, by decide⟩, by decide +kernel⟩, List.mem_append_right _ (List.mem_of_getElem? (i := 534) (by decide +kernel)), List.mem_append_right _ (List.mem_of_getElem? (i := 535) (by decide +kernel))⟩
def f_X2_isYard (a : Nat) (p1 : Int32) (m : ea_M) : Option (Int32 × ea_M) :=
  ea_bd (m a 2) fun x1 =>
  if p1 < x1 then
  some (0, m)
  else
  ea_bd (m a 3) fun x2 =>
  if x2 < p1 then
  some (0, m)
  else
  some (1, m)
set_option maxHeartbeats 300000 in
theorem ok_X2_isYard (G : ea_G) (a : Nat) (p1 : Int32) (m : ea_M) (ha : ea_isCourt a) (rZ : Int32) (mZ : ea_M) (hZ : f_X2_isYard a p1 m = some (rZ, mZ)) : ea_Met G yX2_isYard F_X2_isYard [.ref a, .int p1] m (0, rZ, mZ) := by
  refine ea_met (F := F_X2_isYard) (by decide +kernel) rfl rfl (Nat.le_of_ble_eq_true rfl) (by simp only [List.mem_cons, List.not_mem_nil, or_false]; intro v hv; rcases hv with rfl | rfl <;> rfl) ((?_ : ea_E G F_X2_isYard (0, rZ, mZ) 0 [some (.ref a), some (.int p1)] [] m 0 0 (f_X2_isYard a p1 m) (fun t => t = (rZ, mZ))) (rZ, mZ) hZ rfl)
  have hR : ∀ t : Int32 × ea_M, t = (rZ, mZ) → ((0, rZ, mZ) : ea_O) = (0, t) := fun t h => by rw [h]
  unfold f_X2_isYard
  refine ev_iload_n (ea_at dt_X2_isYard 0 rfl) rfl ?_
  refine ev_aload_n (ea_at dt_X2_isYard 1 rfl) rfl ?_
  refine ev_getI (ea_at dt_X2_isYard 2 rfl) fl_X2_18 ha.1 rfl ?_
  refine ev_i (fun x1 => ?_)
  refine ev_icmp_lt (tgt := 20) (ea_at dt_X2_isYard 3 rfl) rfl (fun _ => ?_) (fun _ => ?_)
  · refine ev_iconst (ea_at dt_X2_isYard 10 rfl) ic_0 ?_
    exact ev_zret (by decide) (ea_at dt_X2_isYard 11 rfl) rfl ⟨by decide, by decide⟩ (fun h => hR _ h)
  · refine ev_iload_n (ea_at dt_X2_isYard 4 rfl) rfl ?_
    refine ev_aload_n (ea_at dt_X2_isYard 5 rfl) rfl ?_
    refine ev_getI (ea_at dt_X2_isYard 6 rfl) fl_X2_21 ha.1 rfl ?_
    refine ev_i (fun x2 => ?_)
    refine ev_icmp_gt (tgt := 20) (ea_at dt_X2_isYard 7 rfl) rfl (fun _ => ?_) (fun _ => ?_)
    · refine ev_iconst (ea_at dt_X2_isYard 10 rfl) ic_0 ?_
      exact ev_zret (by decide) (ea_at dt_X2_isYard 11 rfl) rfl ⟨by decide, by decide⟩ (fun h => hR _ h)
    · refine ev_iconst (ea_at dt_X2_isYard 8 rfl) ic_1 ?_
      refine ev_goto (tgt := 21) (ea_at dt_X2_isYard 9 rfl) rfl ?_
      exact ev_zret (by decide) (ea_at dt_X2_isYard 11 rfl) rfl ⟨by decide, by decide⟩ (fun h => hR _ h)
def F_X7_joined : ea_F := (ea_rm 8 0 0, cX7_joined, RX7, some .int, 3, [], 0, 0)
def D_X7_joined : List (Nat × Instr × Nat) := [(0, .iload_n 0, 1), (1, .tableswitch 65 (-13) (-9) #[61, 65, 50, 39, 35], 35), (36, .iload_n 1, 1), (37, .iload_n 2, 1), (38, .iadd, 1), (39, .ireturn, 1), (40, .iload_n 1, 1), (41, .iload_n 2, 1), (42, .if_icmp .ge 7, 3), (45, .iconst 1, 1), (46, .goto 4, 3), (49, .iconst 0, 1), (50, .ireturn, 1), (51, .iload_n 1, 1), (52, .iload_n 2, 1), (53, .if_icmp .le 7, 3), (56, .iconst 1, 1), (57, .goto 4, 3), (60, .iconst 0, 1), (61, .ireturn, 1), (62, .iload_n 1, 1), (63, .iload_n 2, 1), (64, .iand, 1), (65, .ireturn, 1), (66, .iload_n 1, 1), (67, .iload_n 2, 1), (68, .ior, 1), (69, .ireturn, 1)]
theorem dt_X7_joined : ∀ q ∈ D_X7_joined, decode cX7_joined q.1 = .ok q.2 := by decide +kernel
theorem mv_X7_joined : ea_MS yX7_joined (F_X7_joined) 3 := ⟨⟨List.mem_append_right _ (List.mem_of_getElem? (i := 5) (by decide +kernel)), List.mem_append_right _ (List.mem_of_getElem? (i := 547) (by decide +kernel)), ⟨by decide, by decide⟩, by decide +kernel⟩, List.mem_append_right _ (List.mem_of_getElem? (i := 546) (by decide +kernel))⟩
def f_X7_joined_j66 (p2 : Int32) (p3 : Int32) (m1 : ea_M) : Option (Int32 × ea_M) :=
  some (p2 ||| p3, m1)
def f_X7_joined (p1 : Int32) (p2 : Int32) (p3 : Int32) (m : ea_M) : Option (Int32 × ea_M) :=
  if p1 = (-13) then
  some (p2 &&& p3, m)
  else
  if p1 = (-12) then
  f_X7_joined_j66 p2 p3 m
  else
  if p1 = (-11) then
  if p2 ≤ p3 then
  some (0, m)
  else
  some (1, m)
  else
  if p1 = (-10) then
  if p3 ≤ p2 then
  some (0, m)
  else
  some (1, m)
  else
  if p1 = (-9) then
  some (p2 + p3, m)
  else
  f_X7_joined_j66 p2 p3 m
set_option maxHeartbeats 300000 in
theorem jn_X7_joined_66 (G : ea_G) {res : ea_O}  (p2 : Int32) (p3 : Int32) (m1 : ea_M)  {Φ : (Int32 × ea_M) → Prop} (hR : ∀ t : Int32 × ea_M, Φ t → res = (0, t)) : ea_E G F_X7_joined res 66 [none, some (.int p2), some (.int p3)] [] m1 0 0 (f_X7_joined_j66 p2 p3 m1) Φ := by
  unfold f_X7_joined_j66
  refine ev_iload_n (ea_at dt_X7_joined 24 rfl) rfl ?_
  refine ev_iload_n (ea_at dt_X7_joined 25 rfl) rfl ?_
  refine ev_ior (ea_at dt_X7_joined 26 rfl) ?_
  exact ev_iret (ea_at dt_X7_joined 27 rfl) rfl ⟨by decide, by decide⟩ (fun h => hR _ h)
set_option maxHeartbeats 300000 in
theorem ok_X7_joined (G : ea_G) (p1 : Int32) (p2 : Int32) (p3 : Int32) (m : ea_M)  (rZ : Int32) (mZ : ea_M) (hZ : f_X7_joined p1 p2 p3 m = some (rZ, mZ)) : ea_Met G yX7_joined F_X7_joined [.int p1, .int p2, .int p3] m (0, rZ, mZ) := by
  refine ea_met (F := F_X7_joined) (by decide +kernel) rfl rfl (Nat.le_of_ble_eq_true rfl) (by simp only [List.mem_cons, List.not_mem_nil, or_false]; intro v hv; rcases hv with rfl | rfl | rfl <;> rfl) ((?_ : ea_E G F_X7_joined (0, rZ, mZ) 0 [some (.int p1), some (.int p2), some (.int p3)] [] m 0 0 (f_X7_joined p1 p2 p3 m) (fun t => t = (rZ, mZ))) (rZ, mZ) hZ rfl)
  have hR : ∀ t : Int32 × ea_M, t = (rZ, mZ) → ((0, rZ, mZ) : ea_O) = (0, t) := fun t h => by rw [h]
  unfold f_X7_joined
  refine ev_iload_n (ea_at dt_X7_joined 0 rfl) rfl ?_
  refine ev_ite (fun n0 => ?_) (fun n0 => ?_)
  · refine ev_tsw (c := (-13)) (tgt := 62) n0 (ea_at dt_X7_joined 1 rfl) (by decide) (by decide) rfl rfl ?_
    refine ev_iload_n (ea_at dt_X7_joined 20 rfl) rfl ?_
    refine ev_iload_n (ea_at dt_X7_joined 21 rfl) rfl ?_
    refine ev_iand (ea_at dt_X7_joined 22 rfl) ?_
    exact ev_iret (ea_at dt_X7_joined 23 rfl) rfl ⟨by decide, by decide⟩ (fun h => hR _ h)
  · refine ev_ite (fun n1 => ?_) (fun n1 => ?_)
    · refine ev_tsw (c := (-12)) (tgt := 66) n1 (ea_at dt_X7_joined 1 rfl) (by decide) (by decide) rfl rfl ?_
      exact ev_drop (l' := [none, some (.int p2), some (.int p3)]) ⟨Or.inl rfl, Or.inr rfl, Or.inr rfl, trivial⟩ (jn_X7_joined_66 G p2 p3 m  hR)
    · refine ev_ite (fun n2 => ?_) (fun n2 => ?_)
      · refine ev_tsw (c := (-11)) (tgt := 51) n2 (ea_at dt_X7_joined 1 rfl) (by decide) (by decide) rfl rfl ?_
        refine ev_iload_n (ea_at dt_X7_joined 13 rfl) rfl ?_
        refine ev_iload_n (ea_at dt_X7_joined 14 rfl) rfl ?_
        refine ev_icmp_le (tgt := 60) (ea_at dt_X7_joined 15 rfl) rfl (fun _ => ?_) (fun _ => ?_)
        · refine ev_iconst (ea_at dt_X7_joined 18 rfl) ic_0 ?_
          exact ev_iret (ea_at dt_X7_joined 19 rfl) rfl ⟨by decide, by decide⟩ (fun h => hR _ h)
        · refine ev_iconst (ea_at dt_X7_joined 16 rfl) ic_1 ?_
          refine ev_goto (tgt := 61) (ea_at dt_X7_joined 17 rfl) rfl ?_
          exact ev_iret (ea_at dt_X7_joined 19 rfl) rfl ⟨by decide, by decide⟩ (fun h => hR _ h)
      · refine ev_ite (fun n3 => ?_) (fun n3 => ?_)
        · refine ev_tsw (c := (-10)) (tgt := 40) n3 (ea_at dt_X7_joined 1 rfl) (by decide) (by decide) rfl rfl ?_
          refine ev_iload_n (ea_at dt_X7_joined 6 rfl) rfl ?_
          refine ev_iload_n (ea_at dt_X7_joined 7 rfl) rfl ?_
          refine ev_icmp_ge (tgt := 49) (ea_at dt_X7_joined 8 rfl) rfl (fun _ => ?_) (fun _ => ?_)
          · refine ev_iconst (ea_at dt_X7_joined 11 rfl) ic_0 ?_
            exact ev_iret (ea_at dt_X7_joined 12 rfl) rfl ⟨by decide, by decide⟩ (fun h => hR _ h)
          · refine ev_iconst (ea_at dt_X7_joined 9 rfl) ic_1 ?_
            refine ev_goto (tgt := 50) (ea_at dt_X7_joined 10 rfl) rfl ?_
            exact ev_iret (ea_at dt_X7_joined 12 rfl) rfl ⟨by decide, by decide⟩ (fun h => hR _ h)
        · refine ev_ite (fun n4 => ?_) (fun n4 => ?_)
          · refine ev_tsw (c := (-9)) (tgt := 36) n4 (ea_at dt_X7_joined 1 rfl) (by decide) (by decide) rfl rfl ?_
            refine ev_iload_n (ea_at dt_X7_joined 2 rfl) rfl ?_
            refine ev_iload_n (ea_at dt_X7_joined 3 rfl) rfl ?_
            refine ev_iadd (ea_at dt_X7_joined 4 rfl) ?_
            exact ev_iret (ea_at dt_X7_joined 5 rfl) rfl ⟨by decide, by decide⟩ (fun h => hR _ h)
          · refine ev_tswOut (cnt := 5) (tgt := 66) (ea_at dt_X7_joined 1 rfl) rfl (ea_nS (ea_nS (ea_nS (ea_nS (ea_nS (ea_nZ) (v := (-13)) (by decide) n0) (v := (-12)) (by decide) n1) (v := (-11)) (by decide) n2) (v := (-10)) (by decide) n3) (v := (-9)) (by decide) n4) rfl ?_
            exact ev_drop (l' := [none, some (.int p2), some (.int p3)]) ⟨Or.inl rfl, Or.inr rfl, Or.inr rfl, trivial⟩ (jn_X7_joined_66 G p2 p3 m  hR)
def F_X7_holds : ea_F := (ea_rm 9 0 0, cX7_holds, RX7, some .boolean, 5, [], 0, 0)
def D_X7_holds : List (Nat × Instr × Nat) := [(0, .iconst 0, 1), (1, .istore_n 2, 1), (2, .aload_n 0, 1), (3, .getfield 31, 3), (6, .iload_n 1, 1), (7, .iaload, 1), (8, .istore_n 3, 1), (9, .iload_n 3, 1), (10, .aload_n 0, 1), (11, .getfield 34, 3), (14, .iload_n 1, 1), (15, .iaload, 1), (16, .if_icmp .ge 139, 3), (19, .iload_n 3, 1), (20, .sipush 400, 3), (23, .if_icmp .ge 132, 3), (26, .aload_n 0, 1), (27, .getfield 37, 3), (30, .iload_n 3, 1), (31, .iaload, 1), (32, .istore 4, 2), (34, .iload 4, 2), (36, .bipush (-9), 2), (38, .if_icmp .le 43, 3), (41, .iload_n 2, 1), (42, .aload_n 0, 1), (43, .getfield 43, 3), (46, .arraylength, 1), (47, .if_icmp .ge 34, 3), (50, .aload_n 0, 1), (51, .getfield 43, 3), (54, .iload_n 2, 1), (55, .iload 4, 2), (57, .ifCond .lt 8, 3), (60, .iload 4, 2), (62, .goto 12, 3), (65, .aload_n 0, 1), (66, .getfield 40, 3), (69, .iconst (-1), 1), (70, .iload 4, 2), (72, .isub, 1), (73, .iaload, 1), (74, .iastore, 1), (75, .iinc 2 1, 3), (78, .goto 71, 3), (81, .iload 4, 2), (83, .bipush (-12), 2), (85, .if_icmp .ne 29, 3), (88, .iload_n 2, 1), (89, .iconst 1, 1), (90, .if_icmp .lt 24, 3), (93, .aload_n 0, 1), (94, .getfield 43, 3), (97, .iload_n 2, 1), (98, .iconst 1, 1), (99, .isub, 1), (100, .iconst 1, 1), (101, .aload_n 0, 1), (102, .getfield 43, 3), (105, .iload_n 2, 1), (106, .iconst 1, 1), (107, .isub, 1), (108, .iaload, 1), (109, .isub, 1), (110, .iastore, 1), (111, .goto 38, 3), (114, .iload_n 2, 1), (115, .iconst 2, 1), (116, .if_icmp .lt 33, 3), (119, .iinc 2 (-1), 3), (122, .aload_n 0, 1), (123, .getfield 43, 3), (126, .iload_n 2, 1), (127, .iconst 1, 1), (128, .isub, 1), (129, .iload 4, 2), (131, .aload_n 0, 1), (132, .getfield 43, 3), (135, .iload_n 2, 1), (136, .iconst 1, 1), (137, .isub, 1), (138, .iaload, 1), (139, .aload_n 0, 1), (140, .getfield 43, 3), (143, .iload_n 2, 1), (144, .iaload, 1), (145, .invokestatic 60, 3), (148, .iastore, 1), (149, .iinc 3 1, 3), (152, .goto (-143), 3), (155, .iload_n 2, 1), (156, .ifCond .eq 12, 3), (159, .aload_n 0, 1), (160, .getfield 43, 3), (163, .iconst 0, 1), (164, .iaload, 1), (165, .ifCond .eq 7, 3), (168, .iconst 1, 1), (169, .goto 4, 3), (172, .iconst 0, 1), (173, .ireturn, 1)]
theorem dt_X7_holds : ∀ q ∈ D_X7_holds, decode cX7_holds q.1 = .ok q.2 := by decide +kernel
theorem mv_X7_holds : ea_MV yX7_holds (F_X7_holds) 1 := ⟨⟨List.mem_append_right _ (List.mem_of_getElem? (i := 5) (by decide +kernel)), List.mem_append_right _ (List.mem_of_getElem? (i := 544) (by decide +kernel)), ⟨by decide, by decide⟩, by decide +kernel⟩, List.mem_append_right _ (List.mem_of_getElem? (i := 543) (by decide +kernel)), List.mem_append_left _ (List.mem_of_getElem? (i := 3) (by decide +kernel))⟩
def f_X7_holds_j149 (a : Nat) (p1 : Int32) (x12 : Int32) (x13 : Int32) (m14 : ea_M) : Option ((Int32 × Int32 × ea_M) ⊕ (Int32 × ea_M)) :=
  some (.inl (x12, x13 + 1, m14))
def f_X7_holds_j114 (a : Nat) (p1 : Int32) (x8 : Int32) (x9 : Int32) (x10 : Int32) (m11 : ea_M) : Option ((Int32 × Int32 × ea_M) ⊕ (Int32 × ea_M)) :=
  if x8 < 2 then
  f_X7_holds_j149 a p1 x8 x9 m11
  else
  ea_g ((x8 + (-1)) - 1) 32 (ea_bd (m11 (a + 7) (Int32.toNatClampNeg ((x8 + (-1)) - 1))) fun x15 =>
  ea_g (x8 + (-1)) 32 (ea_bd (m11 (a + 7) (Int32.toNatClampNeg (x8 + (-1)))) fun x16 =>
  ea_cl (f_X7_joined x10 x15 x16 m11) fun r18 m17 =>
  ea_g ((x8 + (-1)) - 1) 32 (ea_bd (ea_st m17 (a + 7) (Int32.toNatClampNeg ((x8 + (-1)) - 1)) r18) fun m19 =>
  f_X7_holds_j149 a p1 (x8 + (-1)) x9 m19)))
def f_X7_holds_j81 (a : Nat) (p1 : Int32) (x4 : Int32) (x5 : Int32) (x6 : Int32) (m7 : ea_M) : Option ((Int32 × Int32 × ea_M) ⊕ (Int32 × ea_M)) :=
  if x6 = (-12) then
  if x4 < 1 then
  f_X7_holds_j114 a p1 x4 x5 x6 m7
  else
  ea_g (x4 - 1) 32 (ea_bd (m7 (a + 7) (Int32.toNatClampNeg (x4 - 1))) fun x20 =>
  ea_g (x4 - 1) 32 (ea_bd (ea_st m7 (a + 7) (Int32.toNatClampNeg (x4 - 1)) (1 - x20)) fun m21 =>
  f_X7_holds_j149 a p1 x4 x5 m21))
  else
  f_X7_holds_j114 a p1 x4 x5 x6 m7
def f_X7_holds_j74 (a : Nat) (p1 : Int32) (x23 : Int32) (x24 : Int32) (x25 : Int32) (x26 : Int32) (m27 : ea_M) : Option ((Int32 × Int32 × ea_M) ⊕ (Int32 × ea_M)) :=
  ea_g x25 32 (ea_bd (ea_st m27 (a + 7) (Int32.toNatClampNeg x25) x26) fun m28 =>
  f_X7_holds_j149 a p1 (x23 + 1) x24 m28)
def f_X7_holds_s9 (a : Nat) (p1 : Int32)  (s9 : Int32 × Int32 × ea_M) : Option ((Int32 × Int32 × ea_M) ⊕ (Int32 × ea_M)) :=
  ea_g p1 12 (ea_bd (s9.2.2 (a + 4) (Int32.toNatClampNeg p1)) fun x2 =>
  if x2 ≤ s9.2.1 then
  some (.inr (s9.1, s9.2.2))
  else
  if 400 ≤ s9.2.1 then
  some (.inr (s9.1, s9.2.2))
  else
  ea_g s9.2.1 400 (ea_bd (s9.2.2 (a + 5) (Int32.toNatClampNeg s9.2.1)) fun x3 =>
  if x3 ≤ (-9) then
  f_X7_holds_j81 a p1 s9.1 s9.2.1 x3 s9.2.2
  else
  if 32 ≤ s9.1 then
  f_X7_holds_j81 a p1 s9.1 s9.2.1 x3 s9.2.2
  else
  if x3 < 0 then
  ea_g ((-1) - x3) 8 (ea_bd (s9.2.2 (a + 6) (Int32.toNatClampNeg ((-1) - x3))) fun x22 =>
  f_X7_holds_j74 a p1 s9.1 s9.2.1 s9.1 x22 s9.2.2)
  else
  f_X7_holds_j74 a p1 s9.1 s9.2.1 s9.1 x3 s9.2.2))
def f_X7_holds_j168 (m29 : ea_M) : Option (Int32 × ea_M) :=
  some (1, m29)
def f_X7_holds (a : Nat) (p1 : Int32) (m : ea_M) : Option (Int32 × ea_M) :=
  ea_g p1 12 (ea_bd (m (a + 3) (Int32.toNatClampNeg p1)) fun x1 =>
  (ea_loop (f_X7_holds_s9 a p1) ea_fuel (0, x1, m)).bind (fun x9s =>
  if x9s.1 = 0 then
  f_X7_holds_j168 x9s.2
  else
  ea_bd (x9s.2 (a + 7) 0) fun x30 =>
  if x30 = 0 then
  some (0, x9s.2)
  else
  f_X7_holds_j168 x9s.2))
set_option maxHeartbeats 300000 in
theorem jn_X7_holds_149 (G : ea_G) {res : ea_O}  (a : Nat) (p1 : Int32) (x12 : Int32) (x13 : Int32) (m14 : ea_M) (ha : ea_isLaw a) {Φ : ((Int32 × Int32 × ea_M) ⊕ (Int32 × ea_M)) → Prop} (hC : ∀ s9 : Int32 × Int32 × ea_M, Φ (.inl s9) → ea_Ev G F_X7_holds res 9 [some (.ref a), some (.int p1), some (.int s9.1), some (.int s9.2.1), none] [] s9.2.2 0 0) (hX : ∀ x9s : Int32 × ea_M, Φ (.inr x9s) → ea_Ev G F_X7_holds res 155 [some (.ref a), none, some (.int x9s.1), none, none] [] x9s.2 0 0) : ea_E G F_X7_holds res 149 [some (.ref a), some (.int p1), some (.int x12), some (.int x13), none] [] m14 0 0 (f_X7_holds_j149 a p1 x12 x13 m14) Φ := by
  unfold f_X7_holds_j149
  refine ev_iinc (ls' := [some (.ref a), some (.int p1), some (.int x12), some (.int (x13 + 1)), none]) (ea_at dt_X7_holds 88 rfl) rfl (congrArg (fun z => _ + z) ic_1) (ea_lt rfl) rfl ?_
  refine ev_goto (tgt := 9) (ea_at dt_X7_holds 89 rfl) rfl ?_
  exact ev_leaf (fun h => ea_drop (l' := [some (.ref a), some (.int p1), some (.int x12), some (.int (x13 + 1)), none]) ⟨Or.inr rfl, Or.inr rfl, Or.inr rfl, Or.inr rfl, Or.inl rfl, trivial⟩ (hC (x12, x13 + 1, m14) h))
set_option maxHeartbeats 300000 in
theorem jn_X7_holds_114 (G : ea_G) {res : ea_O}  (a : Nat) (p1 : Int32) (x8 : Int32) (x9 : Int32) (x10 : Int32) (m11 : ea_M) (ha : ea_isLaw a) {Φ : ((Int32 × Int32 × ea_M) ⊕ (Int32 × ea_M)) → Prop} (hC : ∀ s9 : Int32 × Int32 × ea_M, Φ (.inl s9) → ea_Ev G F_X7_holds res 9 [some (.ref a), some (.int p1), some (.int s9.1), some (.int s9.2.1), none] [] s9.2.2 0 0) (hX : ∀ x9s : Int32 × ea_M, Φ (.inr x9s) → ea_Ev G F_X7_holds res 155 [some (.ref a), none, some (.int x9s.1), none, none] [] x9s.2 0 0) : ea_E G F_X7_holds res 114 [some (.ref a), some (.int p1), some (.int x8), some (.int x9), some (.int x10)] [] m11 0 0 (f_X7_holds_j114 a p1 x8 x9 x10 m11) Φ := by
  unfold f_X7_holds_j114
  refine ev_iload_n (ea_at dt_X7_holds 66 rfl) rfl ?_
  refine ev_iconst (ea_at dt_X7_holds 67 rfl) ic_2 ?_
  refine ev_icmp_lt (tgt := 149) (ea_at dt_X7_holds 68 rfl) rfl (fun _ => ?_) (fun _ => ?_)
  · exact ev_drop (l' := [some (.ref a), some (.int p1), some (.int x8), some (.int x9), none]) ⟨Or.inr rfl, Or.inr rfl, Or.inr rfl, Or.inr rfl, Or.inl rfl, trivial⟩ (jn_X7_holds_149 G a p1 x8 x9 m11 ha hC hX)
  · refine ev_iinc (ls' := [some (.ref a), some (.int p1), some (.int (x8 + (-1))), some (.int x9), some (.int x10)]) (ea_at dt_X7_holds 69 rfl) rfl (congrArg (fun z => _ + z) ic_m1) (ea_lt rfl) rfl ?_
    refine ev_aload_n (ea_at dt_X7_holds 70 rfl) rfl ?_
    refine ev_getR (ea_at dt_X7_holds 71 rfl) fl_X7_43 ha.1 rfl ?_
    refine ev_iload_n (ea_at dt_X7_holds 72 rfl) rfl ?_
    refine ev_iconst (ea_at dt_X7_holds 73 rfl) ic_1 ?_
    refine ev_isub (ea_at dt_X7_holds 74 rfl) ?_
    refine ev_iload (ea_at dt_X7_holds 75 rfl) rfl ?_
    refine ev_aload_n (ea_at dt_X7_holds 76 rfl) rfl ?_
    refine ev_getR (ea_at dt_X7_holds 77 rfl) fl_X7_43 ha.1 rfl ?_
    refine ev_iload_n (ea_at dt_X7_holds 78 rfl) rfl ?_
    refine ev_iconst (ea_at dt_X7_holds 79 rfl) ic_1 ?_
    refine ev_isub (ea_at dt_X7_holds 80 rfl) ?_
    refine ev_iaload (ea_at dt_X7_holds 81 rfl) ha.2.2.2.2.2.2.2 (by decide) ?_
    refine ev_i (fun x15 => ?_)
    refine ev_aload_n (ea_at dt_X7_holds 82 rfl) rfl ?_
    refine ev_getR (ea_at dt_X7_holds 83 rfl) fl_X7_43 ha.1 rfl ?_
    refine ev_iload_n (ea_at dt_X7_holds 84 rfl) rfl ?_
    refine ev_iaload (ea_at dt_X7_holds 85 rfl) ha.2.2.2.2.2.2.2 (by decide) ?_
    refine ev_i (fun x16 => ?_)
    refine ev_clI (F1 := F_X7_joined) (fun rY mY hY => ea_runS (As := [.int x10, .int x15, .int x16]) (ea_at dt_X7_holds 86 rfl) ml_X7_60 mv_X7_joined (ok_X7_joined G x10 x15 x16 m11  rY mY hY) rfl rfl (Nat.le_of_ble_eq_true rfl) rfl) rfl (fun r18 m17 => ?_)
    refine ev_iastore (ea_at dt_X7_holds 87 rfl) ha.2.2.2.2.2.2.2 (by decide) ?_
    refine ev_m (fun m19 => ?_)
    exact ev_drop (l' := [some (.ref a), some (.int p1), some (.int (x8 + (-1))), some (.int x9), none]) ⟨Or.inr rfl, Or.inr rfl, Or.inr rfl, Or.inr rfl, Or.inl rfl, trivial⟩ (jn_X7_holds_149 G a p1 (x8 + (-1)) x9 m19 ha hC hX)
set_option maxHeartbeats 300000 in
theorem jn_X7_holds_81 (G : ea_G) {res : ea_O}  (a : Nat) (p1 : Int32) (x4 : Int32) (x5 : Int32) (x6 : Int32) (m7 : ea_M) (ha : ea_isLaw a) {Φ : ((Int32 × Int32 × ea_M) ⊕ (Int32 × ea_M)) → Prop} (hC : ∀ s9 : Int32 × Int32 × ea_M, Φ (.inl s9) → ea_Ev G F_X7_holds res 9 [some (.ref a), some (.int p1), some (.int s9.1), some (.int s9.2.1), none] [] s9.2.2 0 0) (hX : ∀ x9s : Int32 × ea_M, Φ (.inr x9s) → ea_Ev G F_X7_holds res 155 [some (.ref a), none, some (.int x9s.1), none, none] [] x9s.2 0 0) : ea_E G F_X7_holds res 81 [some (.ref a), some (.int p1), some (.int x4), some (.int x5), some (.int x6)] [] m7 0 0 (f_X7_holds_j81 a p1 x4 x5 x6 m7) Φ := by
  unfold f_X7_holds_j81
  refine ev_iload (ea_at dt_X7_holds 45 rfl) rfl ?_
  refine ev_bipush (ea_at dt_X7_holds 46 rfl) bp_m12 ?_
  refine ev_icmp_ne (tgt := 114) (ea_at dt_X7_holds 47 rfl) rfl (fun _ => ?_) (fun _ => ?_)
  · refine ev_iload_n (ea_at dt_X7_holds 48 rfl) rfl ?_
    refine ev_iconst (ea_at dt_X7_holds 49 rfl) ic_1 ?_
    refine ev_icmp_lt (tgt := 114) (ea_at dt_X7_holds 50 rfl) rfl (fun _ => ?_) (fun _ => ?_)
    · exact ev_drop (l' := [some (.ref a), some (.int p1), some (.int x4), some (.int x5), some (.int x6)]) ⟨Or.inr rfl, Or.inr rfl, Or.inr rfl, Or.inr rfl, Or.inr rfl, trivial⟩ (jn_X7_holds_114 G a p1 x4 x5 x6 m7 ha hC hX)
    · refine ev_aload_n (ea_at dt_X7_holds 51 rfl) rfl ?_
      refine ev_getR (ea_at dt_X7_holds 52 rfl) fl_X7_43 ha.1 rfl ?_
      refine ev_iload_n (ea_at dt_X7_holds 53 rfl) rfl ?_
      refine ev_iconst (ea_at dt_X7_holds 54 rfl) ic_1 ?_
      refine ev_isub (ea_at dt_X7_holds 55 rfl) ?_
      refine ev_iconst (ea_at dt_X7_holds 56 rfl) ic_1 ?_
      refine ev_aload_n (ea_at dt_X7_holds 57 rfl) rfl ?_
      refine ev_getR (ea_at dt_X7_holds 58 rfl) fl_X7_43 ha.1 rfl ?_
      refine ev_iload_n (ea_at dt_X7_holds 59 rfl) rfl ?_
      refine ev_iconst (ea_at dt_X7_holds 60 rfl) ic_1 ?_
      refine ev_isub (ea_at dt_X7_holds 61 rfl) ?_
      refine ev_iaload (ea_at dt_X7_holds 62 rfl) ha.2.2.2.2.2.2.2 (by decide) ?_
      refine ev_i (fun x20 => ?_)
      refine ev_isub (ea_at dt_X7_holds 63 rfl) ?_
      refine ev_iastore (ea_at dt_X7_holds 64 rfl) ha.2.2.2.2.2.2.2 (by decide) ?_
      refine ev_m (fun m21 => ?_)
      refine ev_goto (tgt := 149) (ea_at dt_X7_holds 65 rfl) rfl ?_
      exact ev_drop (l' := [some (.ref a), some (.int p1), some (.int x4), some (.int x5), none]) ⟨Or.inr rfl, Or.inr rfl, Or.inr rfl, Or.inr rfl, Or.inl rfl, trivial⟩ (jn_X7_holds_149 G a p1 x4 x5 m21 ha hC hX)
  · exact ev_drop (l' := [some (.ref a), some (.int p1), some (.int x4), some (.int x5), some (.int x6)]) ⟨Or.inr rfl, Or.inr rfl, Or.inr rfl, Or.inr rfl, Or.inr rfl, trivial⟩ (jn_X7_holds_114 G a p1 x4 x5 x6 m7 ha hC hX)
set_option maxHeartbeats 300000 in
theorem jn_X7_holds_74 (G : ea_G) {res : ea_O}  (a : Nat) (p1 : Int32) (x23 : Int32) (x24 : Int32) (x25 : Int32) (x26 : Int32) (m27 : ea_M) (ha : ea_isLaw a) {Φ : ((Int32 × Int32 × ea_M) ⊕ (Int32 × ea_M)) → Prop} (hC : ∀ s9 : Int32 × Int32 × ea_M, Φ (.inl s9) → ea_Ev G F_X7_holds res 9 [some (.ref a), some (.int p1), some (.int s9.1), some (.int s9.2.1), none] [] s9.2.2 0 0) (hX : ∀ x9s : Int32 × ea_M, Φ (.inr x9s) → ea_Ev G F_X7_holds res 155 [some (.ref a), none, some (.int x9s.1), none, none] [] x9s.2 0 0) : ea_E G F_X7_holds res 74 [some (.ref a), some (.int p1), some (.int x23), some (.int x24), none] [.int x26, .int x25, .ref (a + 7)] m27 0 0 (f_X7_holds_j74 a p1 x23 x24 x25 x26 m27) Φ := by
  unfold f_X7_holds_j74
  refine ev_iastore (ea_at dt_X7_holds 42 rfl) ha.2.2.2.2.2.2.2 (by decide) ?_
  refine ev_m (fun m28 => ?_)
  refine ev_iinc (ls' := [some (.ref a), some (.int p1), some (.int (x23 + 1)), some (.int x24), none]) (ea_at dt_X7_holds 43 rfl) rfl (congrArg (fun z => _ + z) ic_1) (ea_lt rfl) rfl ?_
  refine ev_goto (tgt := 149) (ea_at dt_X7_holds 44 rfl) rfl ?_
  exact ev_drop (l' := [some (.ref a), some (.int p1), some (.int (x23 + 1)), some (.int x24), none]) ⟨Or.inr rfl, Or.inr rfl, Or.inr rfl, Or.inr rfl, Or.inl rfl, trivial⟩ (jn_X7_holds_149 G a p1 (x23 + 1) x24 m28 ha hC hX)
set_option maxHeartbeats 300000 in
theorem lp_X7_holds_9 (G : ea_G) {res : ea_O}  (a : Nat) (p1 : Int32) (ha : ea_isLaw a) {Ψ : (Int32 × ea_M) → Prop} (hX : ∀ x9s : Int32 × ea_M, Ψ x9s → ea_Ev G F_X7_holds res 155 [some (.ref a), none, some (.int x9s.1), none, none] [] x9s.2 0 0) : ∀ (f : Nat) (s9 : Int32 × Int32 × ea_M), ea_E G F_X7_holds res 9 [some (.ref a), some (.int p1), some (.int s9.1), some (.int s9.2.1), none] [] s9.2.2 0 0 (ea_loop (f_X7_holds_s9 a p1) f s9) Ψ := by
  refine ev_loop (G := G) (F := F_X7_holds) (res := res) (pc := 9) (st := []) (k := 0) (n := 0) (step := (f_X7_holds_s9 a p1)) (Ψ := Ψ) (fun (s9 : Int32 × Int32 × ea_M) => [some (.ref a), some (.int p1), some (.int s9.1), some (.int s9.2.1), none]) (fun (s9 : Int32 × Int32 × ea_M) => s9.2.2) (fun s9 => ?_)
  have hC : ∀ s9 : Int32 × Int32 × ea_M, (Sum.elim (fun s9 : Int32 × Int32 × ea_M => ea_Ev G F_X7_holds res 9 [some (.ref a), some (.int p1), some (.int s9.1), some (.int s9.2.1), none] [] s9.2.2 0 0) Ψ) (.inl s9) → ea_Ev G F_X7_holds res 9 [some (.ref a), some (.int p1), some (.int s9.1), some (.int s9.2.1), none] [] s9.2.2 0 0 := fun _ h => h
  have hX : ∀ x9s : Int32 × ea_M, (Sum.elim (fun s9 : Int32 × Int32 × ea_M => ea_Ev G F_X7_holds res 9 [some (.ref a), some (.int p1), some (.int s9.1), some (.int s9.2.1), none] [] s9.2.2 0 0) Ψ) (.inr x9s) → ea_Ev G F_X7_holds res 155 [some (.ref a), none, some (.int x9s.1), none, none] [] x9s.2 0 0 := hX
  unfold f_X7_holds_s9
  refine ev_iload_n (ea_at dt_X7_holds 7 rfl) rfl ?_
  refine ev_aload_n (ea_at dt_X7_holds 8 rfl) rfl ?_
  refine ev_getR (ea_at dt_X7_holds 9 rfl) fl_X7_34 ha.1 rfl ?_
  refine ev_iload_n (ea_at dt_X7_holds 10 rfl) rfl ?_
  refine ev_iaload (ea_at dt_X7_holds 11 rfl) ha.2.2.2.2.1 (by decide) ?_
  refine ev_i (fun x2 => ?_)
  refine ev_icmp_ge (tgt := 155) (ea_at dt_X7_holds 12 rfl) rfl (fun _ => ?_) (fun _ => ?_)
  · exact ev_leaf (fun h => ea_drop (l' := [some (.ref a), none, some (.int s9.1), none, none]) ⟨Or.inr rfl, Or.inl rfl, Or.inr rfl, Or.inl rfl, Or.inl rfl, trivial⟩ (hX (s9.1, s9.2.2) h))
  · refine ev_iload_n (ea_at dt_X7_holds 13 rfl) rfl ?_
    refine ev_sipush (ea_at dt_X7_holds 14 rfl) sp_400 ?_
    refine ev_icmp_ge (tgt := 155) (ea_at dt_X7_holds 15 rfl) rfl (fun _ => ?_) (fun _ => ?_)
    · exact ev_leaf (fun h => ea_drop (l' := [some (.ref a), none, some (.int s9.1), none, none]) ⟨Or.inr rfl, Or.inl rfl, Or.inr rfl, Or.inl rfl, Or.inl rfl, trivial⟩ (hX (s9.1, s9.2.2) h))
    · refine ev_aload_n (ea_at dt_X7_holds 16 rfl) rfl ?_
      refine ev_getR (ea_at dt_X7_holds 17 rfl) fl_X7_37 ha.1 rfl ?_
      refine ev_iload_n (ea_at dt_X7_holds 18 rfl) rfl ?_
      refine ev_iaload (ea_at dt_X7_holds 19 rfl) ha.2.2.2.2.2.1 (by decide) ?_
      refine ev_i (fun x3 => ?_)
      refine ev_istore (ls' := [some (.ref a), some (.int p1), some (.int s9.1), some (.int s9.2.1), some (.int x3)]) (ea_at dt_X7_holds 20 rfl) (ea_lt rfl) rfl ?_
      refine ev_iload (ea_at dt_X7_holds 21 rfl) rfl ?_
      refine ev_bipush (ea_at dt_X7_holds 22 rfl) bp_m9 ?_
      refine ev_icmp_le (tgt := 81) (ea_at dt_X7_holds 23 rfl) rfl (fun _ => ?_) (fun _ => ?_)
      · exact ev_drop (l' := [some (.ref a), some (.int p1), some (.int s9.1), some (.int s9.2.1), some (.int x3)]) ⟨Or.inr rfl, Or.inr rfl, Or.inr rfl, Or.inr rfl, Or.inr rfl, trivial⟩ (jn_X7_holds_81 G a p1 s9.1 s9.2.1 x3 s9.2.2 ha hC hX)
      · refine ev_iload_n (ea_at dt_X7_holds 24 rfl) rfl ?_
        refine ev_aload_n (ea_at dt_X7_holds 25 rfl) rfl ?_
        refine ev_getR (ea_at dt_X7_holds 26 rfl) fl_X7_43 ha.1 rfl ?_
        refine ev_alen (ea_at dt_X7_holds 27 rfl) ha.2.2.2.2.2.2.2 (by decide) (by decide) ol_32 ?_
        refine ev_icmp_ge (tgt := 81) (ea_at dt_X7_holds 28 rfl) rfl (fun _ => ?_) (fun _ => ?_)
        · exact ev_drop (l' := [some (.ref a), some (.int p1), some (.int s9.1), some (.int s9.2.1), some (.int x3)]) ⟨Or.inr rfl, Or.inr rfl, Or.inr rfl, Or.inr rfl, Or.inr rfl, trivial⟩ (jn_X7_holds_81 G a p1 s9.1 s9.2.1 x3 s9.2.2 ha hC hX)
        · refine ev_aload_n (ea_at dt_X7_holds 29 rfl) rfl ?_
          refine ev_getR (ea_at dt_X7_holds 30 rfl) fl_X7_43 ha.1 rfl ?_
          refine ev_iload_n (ea_at dt_X7_holds 31 rfl) rfl ?_
          refine ev_iload (ea_at dt_X7_holds 32 rfl) rfl ?_
          refine ev_if_lt (tgt := 65) (ea_at dt_X7_holds 33 rfl) rfl (fun _ => ?_) (fun _ => ?_)
          · refine ev_aload_n (ea_at dt_X7_holds 36 rfl) rfl ?_
            refine ev_getR (ea_at dt_X7_holds 37 rfl) fl_X7_40 ha.1 rfl ?_
            refine ev_iconst (ea_at dt_X7_holds 38 rfl) ic_m1 ?_
            refine ev_iload (ea_at dt_X7_holds 39 rfl) rfl ?_
            refine ev_isub (ea_at dt_X7_holds 40 rfl) ?_
            refine ev_iaload (ea_at dt_X7_holds 41 rfl) ha.2.2.2.2.2.2.1 (by decide) ?_
            refine ev_i (fun x22 => ?_)
            exact ev_drop (l' := [some (.ref a), some (.int p1), some (.int s9.1), some (.int s9.2.1), none]) ⟨Or.inr rfl, Or.inr rfl, Or.inr rfl, Or.inr rfl, Or.inl rfl, trivial⟩ (jn_X7_holds_74 G a p1 s9.1 s9.2.1 s9.1 x22 s9.2.2 ha hC hX)
          · refine ev_iload (ea_at dt_X7_holds 34 rfl) rfl ?_
            refine ev_goto (tgt := 74) (ea_at dt_X7_holds 35 rfl) rfl ?_
            exact ev_drop (l' := [some (.ref a), some (.int p1), some (.int s9.1), some (.int s9.2.1), none]) ⟨Or.inr rfl, Or.inr rfl, Or.inr rfl, Or.inr rfl, Or.inl rfl, trivial⟩ (jn_X7_holds_74 G a p1 s9.1 s9.2.1 s9.1 x3 s9.2.2 ha hC hX)
set_option maxHeartbeats 300000 in
theorem jn_X7_holds_168 (G : ea_G) {res : ea_O}  (m29 : ea_M)  {Φ : (Int32 × ea_M) → Prop} (hR : ∀ t : Int32 × ea_M, Φ t → res = (0, t)) : ea_E G F_X7_holds res 168 [none, none, none, none, none] [] m29 0 0 (f_X7_holds_j168 m29) Φ := by
  unfold f_X7_holds_j168
  refine ev_iconst (ea_at dt_X7_holds 97 rfl) ic_1 ?_
  refine ev_goto (tgt := 173) (ea_at dt_X7_holds 98 rfl) rfl ?_
  exact ev_zret (by decide) (ea_at dt_X7_holds 100 rfl) rfl ⟨by decide, by decide⟩ (fun h => hR _ h)
set_option maxHeartbeats 300000 in
theorem ok_X7_holds (G : ea_G) (a : Nat) (p1 : Int32) (m : ea_M) (ha : ea_isLaw a) (rZ : Int32) (mZ : ea_M) (hZ : f_X7_holds a p1 m = some (rZ, mZ)) : ea_Met G yX7_holds F_X7_holds [.ref a, .int p1] m (0, rZ, mZ) := by
  refine ea_met (F := F_X7_holds) (by decide +kernel) rfl rfl (Nat.le_of_ble_eq_true rfl) (by simp only [List.mem_cons, List.not_mem_nil, or_false]; intro v hv; rcases hv with rfl | rfl <;> rfl) ((?_ : ea_E G F_X7_holds (0, rZ, mZ) 0 [some (.ref a), some (.int p1), none, none, none] [] m 0 0 (f_X7_holds a p1 m) (fun t => t = (rZ, mZ))) (rZ, mZ) hZ rfl)
  have hR : ∀ t : Int32 × ea_M, t = (rZ, mZ) → ((0, rZ, mZ) : ea_O) = (0, t) := fun t h => by rw [h]
  unfold f_X7_holds
  refine ev_iconst (ea_at dt_X7_holds 0 rfl) ic_0 ?_
  refine ev_istore_n (ls' := [some (.ref a), some (.int p1), some (.int 0), none, none]) (ea_at dt_X7_holds 1 rfl) (ea_lt rfl) rfl ?_
  refine ev_aload_n (ea_at dt_X7_holds 2 rfl) rfl ?_
  refine ev_getR (ea_at dt_X7_holds 3 rfl) fl_X7_31 ha.1 rfl ?_
  refine ev_iload_n (ea_at dt_X7_holds 4 rfl) rfl ?_
  refine ev_iaload (ea_at dt_X7_holds 5 rfl) ha.2.2.2.1 (by decide) ?_
  refine ev_i (fun x1 => ?_)
  refine ev_istore_n (ls' := [some (.ref a), some (.int p1), some (.int 0), some (.int x1), none]) (ea_at dt_X7_holds 6 rfl) (ea_lt rfl) rfl ?_
  refine ev_drop (l' := [some (.ref a), some (.int p1), some (.int 0), some (.int x1), none]) ⟨Or.inr rfl, Or.inr rfl, Or.inr rfl, Or.inr rfl, Or.inl rfl, trivial⟩ ?_
  refine ev_bind (lp_X7_holds_9 G a p1 ha  (fun x9s h => ?_) ea_fuel (0, x1, m))
  obtain ⟨t1, e1, q1⟩ := h
  refine (?_ : ea_E G F_X7_holds (0, rZ, mZ) 155 [some (.ref a), none, some (.int x9s.1), none, none] [] x9s.2 0 0 _ (fun t => t = (rZ, mZ))) t1 e1 q1
  refine ev_iload_n (ea_at dt_X7_holds 90 rfl) rfl ?_
  refine ev_if_eq (tgt := 168) (ea_at dt_X7_holds 91 rfl) rfl (fun _ => ?_) (fun _ => ?_)
  · exact ev_drop (l' := [none, none, none, none, none]) ⟨Or.inl rfl, Or.inl rfl, Or.inl rfl, Or.inl rfl, Or.inl rfl, trivial⟩ (jn_X7_holds_168 G x9s.2  hR)
  · refine ev_aload_n (ea_at dt_X7_holds 92 rfl) rfl ?_
    refine ev_getR (ea_at dt_X7_holds 93 rfl) fl_X7_43 ha.1 rfl ?_
    refine ev_iconst (ea_at dt_X7_holds 94 rfl) ic_0 ?_
    refine ev_ialoadC (j := 0) (ea_at dt_X7_holds 95 rfl) ha.2.2.2.2.2.2.2 (by decide) (by decide) (by decide) (by decide) ?_
    refine ev_i (fun x30 => ?_)
    refine ev_if_eq (tgt := 172) (ea_at dt_X7_holds 96 rfl) rfl (fun _ => ?_) (fun _ => ?_)
    · refine ev_iconst (ea_at dt_X7_holds 99 rfl) ic_0 ?_
      exact ev_zret (by decide) (ea_at dt_X7_holds 100 rfl) rfl ⟨by decide, by decide⟩ (fun h => hR _ h)
    · exact ev_drop (l' := [none, none, none, none, none]) ⟨Or.inl rfl, Or.inl rfl, Or.inl rfl, Or.inl rfl, Or.inl rfl, trivial⟩ (jn_X7_holds_168 G x9s.2  hR)
