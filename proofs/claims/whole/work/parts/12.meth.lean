def F_X3_takesLine : ea_F := (ea_rm 17 0 0, cX3_takesLine, RX3, some .boolean, 1, [], 0, 0)
def D_X3_takesLine : List (Nat × Instr × Nat) := [(0, .aload_n 0, 1), (1, .getfield 14, 3), (4, .ldc 46, 2), (6, .invokevirtual 48, 3), (9, .ifCond .eq 8, 3), (12, .aload_n 0, 1), (13, .invokevirtual 52, 3), (16, .ireturn, 1), (17, .aload_n 0, 1), (18, .getfield 14, 3), (21, .ldc 55, 2), (23, .invokevirtual 48, 3), (26, .ifCond .eq 8, 3), (29, .aload_n 0, 1), (30, .invokevirtual 57, 3), (33, .ireturn, 1), (34, .aload_n 0, 1), (35, .getfield 14, 3), (38, .ldc 60, 2), (40, .invokevirtual 48, 3), (43, .ifCond .eq 8, 3), (46, .aload_n 0, 1), (47, .invokevirtual 62, 3), (50, .ireturn, 1), (51, .aload_n 0, 1), (52, .getfield 14, 3), (55, .ldc 65, 2), (57, .invokevirtual 48, 3), (60, .ifCond .eq 8, 3), (63, .aload_n 0, 1), (64, .invokevirtual 67, 3), (67, .ireturn, 1), (68, .aload_n 0, 1), (69, .getfield 14, 3), (72, .ldc 70, 2), (74, .invokevirtual 48, 3), (77, .ifCond .eq 8, 3), (80, .aload_n 0, 1), (81, .invokevirtual 72, 3), (84, .ireturn, 1), (85, .aload_n 0, 1), (86, .getfield 14, 3), (89, .ldc 75, 2), (91, .invokevirtual 48, 3), (94, .ifCond .eq 8, 3), (97, .aload_n 0, 1), (98, .invokevirtual 77, 3), (101, .ireturn, 1), (102, .aload_n 0, 1), (103, .getfield 14, 3), (106, .ldc 80, 2), (108, .iconst 0, 1), (109, .bipush 23, 2), (111, .invokevirtual 82, 3), (114, .ifCond .ne 5, 3), (117, .iconst 0, 1), (118, .ireturn, 1), (119, .aload_n 0, 1), (120, .getfield 20, 3), (123, .aload_n 0, 1), (124, .getfield 14, 3), (127, .getfield 86, 3), (130, .putfield 89, 3), (133, .iconst 1, 1), (134, .ireturn, 1)]
theorem dt_X3_takesLine : ∀ q ∈ D_X3_takesLine, decode cX3_takesLine q.1 = .ok q.2 := by decide +kernel
theorem mv_X3_takesLine : ea_MV yX3_takesLine (F_X3_takesLine) 0 := ⟨⟨List.mem_append_right _ (List.mem_of_getElem? (i := 6) (by decide +kernel)), List.mem_append_right _ (List.mem_of_getElem? (i := 668) (by decide +kernel)), ⟨by decide, by decide⟩, by decide +kernel⟩, List.mem_append_right _ (List.mem_of_getElem? (i := 667) (by decide +kernel)), List.mem_append_left _ (List.mem_of_getElem? (i := 9) (by decide +kernel))⟩
def f_X3_takesLine (m : ea_M) : Option (Int32 × ea_M) :=
  ea_cl (f_X9_sees 47 0 m) fun r2 m1 =>
  if r2 = 0 then
  ea_cl (f_X9_sees 47 5 m1) fun r4 m3 =>
  if r4 = 0 then
  ea_cl (f_X9_sees 47 6 m3) fun r6 m5 =>
  if r6 = 0 then
  ea_cl (f_X9_sees 47 8 m5) fun r8 m7 =>
  if r8 = 0 then
  ea_cl (f_X9_sees 47 10 m7) fun r10 m9 =>
  if r10 = 0 then
  ea_cl (f_X9_sees 47 12 m9) fun r12 m11 =>
  if r12 = 0 then
  ea_cl (f_X9_takesNamed 47 15 0 23 m11) fun r14 m13 =>
  if r14 = 0 then
  some (0, m13)
  else
  ea_bd (m13 47 5) fun x15 =>
  ea_bd (ea_st m13 24 4 x15) fun m16 =>
  some (1, m16)
  else
  ea_cl (f_X3_takesWind m11) fun r18 m17 =>
  ea_gz r18 (some (r18, m17))
  else
  ea_cl (f_X3_takesYard m9) fun r20 m19 =>
  ea_gz r20 (some (r20, m19))
  else
  ea_cl (f_X3_takesTower m7) fun r22 m21 =>
  ea_gz r22 (some (r22, m21))
  else
  ea_cl (f_X3_takesCase m5) fun r24 m23 =>
  ea_gz r24 (some (r24, m23))
  else
  ea_cl (f_X3_takesCounsel m3) fun r26 m25 =>
  ea_gz r26 (some (r26, m25))
  else
  ea_cl (f_X3_takesBird m1) fun r28 m27 =>
  ea_gz r28 (some (r28, m27))
set_option maxHeartbeats 300000 in
theorem ok_X3_takesLine (G : ea_G) (m : ea_M)  (rZ : Int32) (mZ : ea_M) (hZ : f_X3_takesLine m = some (rZ, mZ)) : ea_Met G yX3_takesLine F_X3_takesLine [.ref 46] m (0, rZ, mZ) := by
  refine ea_met (F := F_X3_takesLine) (by decide +kernel) rfl rfl (Nat.le_of_ble_eq_true rfl) (by simp only [List.mem_cons, List.not_mem_nil, or_false]; intro v hv; rcases hv with rfl <;> rfl) ((?_ : ea_E G F_X3_takesLine (0, rZ, mZ) 0 [some (.ref 46)] [] m 0 0 (f_X3_takesLine m) (fun t => t = (rZ, mZ))) (rZ, mZ) hZ rfl)
  have hR : ∀ t : Int32 × ea_M, t = (rZ, mZ) → ((0, rZ, mZ) : ea_O) = (0, t) := fun t h => by rw [h]
  unfold f_X3_takesLine
  refine ev_aload_n (ea_at dt_X3_takesLine 0 rfl) rfl ?_
  refine ev_getR (ea_at dt_X3_takesLine 1 rfl) fl_X3_14 sh_46 rfl ?_
  refine ev_ldcS (j := 0) (ea_at dt_X3_takesLine 2 rfl) rfl ?_
  refine ev_clI (F1 := F_X9_sees) (fun rY mY hY => ea_runV (As := [.ref (1000 + 0)]) (ea_at dt_X3_takesLine 3 rfl) ml_X3_48 mv_X9_sees (ok_X9_sees G 47 0 m is_Reader_47 (by decide) rY mY hY) sh_47 rfl rfl rfl (Nat.le_of_ble_eq_true rfl) rfl) rfl (fun r2 m1 => ?_)
  refine ev_if_eq (tgt := 17) (ea_at dt_X3_takesLine 4 rfl) rfl (fun _ => ?_) (fun _ => ?_)
  · refine ev_aload_n (ea_at dt_X3_takesLine 8 rfl) rfl ?_
    refine ev_getR (ea_at dt_X3_takesLine 9 rfl) fl_X3_14 sh_46 rfl ?_
    refine ev_ldcS (j := 5) (ea_at dt_X3_takesLine 10 rfl) rfl ?_
    refine ev_clI (F1 := F_X9_sees) (fun rY mY hY => ea_runV (As := [.ref (1000 + 5)]) (ea_at dt_X3_takesLine 11 rfl) ml_X3_48 mv_X9_sees (ok_X9_sees G 47 5 m1 is_Reader_47 (by decide) rY mY hY) sh_47 rfl rfl rfl (Nat.le_of_ble_eq_true rfl) rfl) rfl (fun r4 m3 => ?_)
    refine ev_if_eq (tgt := 34) (ea_at dt_X3_takesLine 12 rfl) rfl (fun _ => ?_) (fun _ => ?_)
    · refine ev_aload_n (ea_at dt_X3_takesLine 16 rfl) rfl ?_
      refine ev_getR (ea_at dt_X3_takesLine 17 rfl) fl_X3_14 sh_46 rfl ?_
      refine ev_ldcS (j := 6) (ea_at dt_X3_takesLine 18 rfl) rfl ?_
      refine ev_clI (F1 := F_X9_sees) (fun rY mY hY => ea_runV (As := [.ref (1000 + 6)]) (ea_at dt_X3_takesLine 19 rfl) ml_X3_48 mv_X9_sees (ok_X9_sees G 47 6 m3 is_Reader_47 (by decide) rY mY hY) sh_47 rfl rfl rfl (Nat.le_of_ble_eq_true rfl) rfl) rfl (fun r6 m5 => ?_)
      refine ev_if_eq (tgt := 51) (ea_at dt_X3_takesLine 20 rfl) rfl (fun _ => ?_) (fun _ => ?_)
      · refine ev_aload_n (ea_at dt_X3_takesLine 24 rfl) rfl ?_
        refine ev_getR (ea_at dt_X3_takesLine 25 rfl) fl_X3_14 sh_46 rfl ?_
        refine ev_ldcS (j := 8) (ea_at dt_X3_takesLine 26 rfl) rfl ?_
        refine ev_clI (F1 := F_X9_sees) (fun rY mY hY => ea_runV (As := [.ref (1000 + 8)]) (ea_at dt_X3_takesLine 27 rfl) ml_X3_48 mv_X9_sees (ok_X9_sees G 47 8 m5 is_Reader_47 (by decide) rY mY hY) sh_47 rfl rfl rfl (Nat.le_of_ble_eq_true rfl) rfl) rfl (fun r8 m7 => ?_)
        refine ev_if_eq (tgt := 68) (ea_at dt_X3_takesLine 28 rfl) rfl (fun _ => ?_) (fun _ => ?_)
        · refine ev_aload_n (ea_at dt_X3_takesLine 32 rfl) rfl ?_
          refine ev_getR (ea_at dt_X3_takesLine 33 rfl) fl_X3_14 sh_46 rfl ?_
          refine ev_ldcS (j := 10) (ea_at dt_X3_takesLine 34 rfl) rfl ?_
          refine ev_clI (F1 := F_X9_sees) (fun rY mY hY => ea_runV (As := [.ref (1000 + 10)]) (ea_at dt_X3_takesLine 35 rfl) ml_X3_48 mv_X9_sees (ok_X9_sees G 47 10 m7 is_Reader_47 (by decide) rY mY hY) sh_47 rfl rfl rfl (Nat.le_of_ble_eq_true rfl) rfl) rfl (fun r10 m9 => ?_)
          refine ev_if_eq (tgt := 85) (ea_at dt_X3_takesLine 36 rfl) rfl (fun _ => ?_) (fun _ => ?_)
          · refine ev_aload_n (ea_at dt_X3_takesLine 40 rfl) rfl ?_
            refine ev_getR (ea_at dt_X3_takesLine 41 rfl) fl_X3_14 sh_46 rfl ?_
            refine ev_ldcS (j := 12) (ea_at dt_X3_takesLine 42 rfl) rfl ?_
            refine ev_clI (F1 := F_X9_sees) (fun rY mY hY => ea_runV (As := [.ref (1000 + 12)]) (ea_at dt_X3_takesLine 43 rfl) ml_X3_48 mv_X9_sees (ok_X9_sees G 47 12 m9 is_Reader_47 (by decide) rY mY hY) sh_47 rfl rfl rfl (Nat.le_of_ble_eq_true rfl) rfl) rfl (fun r12 m11 => ?_)
            refine ev_if_eq (tgt := 102) (ea_at dt_X3_takesLine 44 rfl) rfl (fun _ => ?_) (fun _ => ?_)
            · refine ev_aload_n (ea_at dt_X3_takesLine 48 rfl) rfl ?_
              refine ev_getR (ea_at dt_X3_takesLine 49 rfl) fl_X3_14 sh_46 rfl ?_
              refine ev_ldcS (j := 15) (ea_at dt_X3_takesLine 50 rfl) rfl ?_
              refine ev_iconst (ea_at dt_X3_takesLine 51 rfl) ic_0 ?_
              refine ev_bipush (ea_at dt_X3_takesLine 52 rfl) bp_23 ?_
              refine ev_clI (F1 := F_X9_takesNamed) (fun rY mY hY => ea_runV (As := [.ref (1000 + 15), .int 0, .int 23]) (ea_at dt_X3_takesLine 53 rfl) ml_X3_82 mv_X9_takesNamed (ok_X9_takesNamed G 47 15 0 23 m11 is_Reader_47 (by decide) rY mY hY) sh_47 rfl rfl rfl (Nat.le_of_ble_eq_true rfl) rfl) rfl (fun r14 m13 => ?_)
              refine ev_if_ne (tgt := 119) (ea_at dt_X3_takesLine 54 rfl) rfl (fun _ => ?_) (fun _ => ?_)
              · refine ev_iconst (ea_at dt_X3_takesLine 55 rfl) ic_0 ?_
                exact ev_zret (by decide) (ea_at dt_X3_takesLine 56 rfl) rfl ⟨by decide, by decide⟩ (fun h => hR _ h)
              · refine ev_aload_n (ea_at dt_X3_takesLine 57 rfl) rfl ?_
                refine ev_getR (ea_at dt_X3_takesLine 58 rfl) fl_X3_20 sh_46 rfl ?_
                refine ev_aload_n (ea_at dt_X3_takesLine 59 rfl) rfl ?_
                refine ev_getR (ea_at dt_X3_takesLine 60 rfl) fl_X3_14 sh_46 rfl ?_
                refine ev_getI (ea_at dt_X3_takesLine 61 rfl) fl_X3_86 sh_47 rfl ?_
                refine ev_i (fun x15 => ?_)
                refine ev_putI (ea_at dt_X3_takesLine 62 rfl) fl_X3_89 fp_2_4 sh_24 rfl ?_
                refine ev_m (fun m16 => ?_)
                refine ev_iconst (ea_at dt_X3_takesLine 63 rfl) ic_1 ?_
                exact ev_zret (by decide) (ea_at dt_X3_takesLine 64 rfl) rfl ⟨by decide, by decide⟩ (fun h => hR _ h)
            · refine ev_aload_n (ea_at dt_X3_takesLine 45 rfl) rfl ?_
              refine ev_clI (F1 := F_X3_takesWind) (fun rY mY hY => ea_runV (As := []) (ea_at dt_X3_takesLine 46 rfl) ml_X3_77 mv_X3_takesWind (ok_X3_takesWind G m11  rY mY hY) sh_46 rfl rfl rfl (Nat.le_of_ble_eq_true rfl) rfl) rfl (fun r18 m17 => ?_)
              exact ev_zretG (ea_at dt_X3_takesLine 47 rfl) rfl ⟨by decide, by decide⟩ (fun h => hR _ h)
          · refine ev_aload_n (ea_at dt_X3_takesLine 37 rfl) rfl ?_
            refine ev_clI (F1 := F_X3_takesYard) (fun rY mY hY => ea_runV (As := []) (ea_at dt_X3_takesLine 38 rfl) ml_X3_72 mv_X3_takesYard (ok_X3_takesYard G m9  rY mY hY) sh_46 rfl rfl rfl (Nat.le_of_ble_eq_true rfl) rfl) rfl (fun r20 m19 => ?_)
            exact ev_zretG (ea_at dt_X3_takesLine 39 rfl) rfl ⟨by decide, by decide⟩ (fun h => hR _ h)
        · refine ev_aload_n (ea_at dt_X3_takesLine 29 rfl) rfl ?_
          refine ev_clI (F1 := F_X3_takesTower) (fun rY mY hY => ea_runV (As := []) (ea_at dt_X3_takesLine 30 rfl) ml_X3_67 mv_X3_takesTower (ok_X3_takesTower G m7  rY mY hY) sh_46 rfl rfl rfl (Nat.le_of_ble_eq_true rfl) rfl) rfl (fun r22 m21 => ?_)
          exact ev_zretG (ea_at dt_X3_takesLine 31 rfl) rfl ⟨by decide, by decide⟩ (fun h => hR _ h)
      · refine ev_aload_n (ea_at dt_X3_takesLine 21 rfl) rfl ?_
        refine ev_clI (F1 := F_X3_takesCase) (fun rY mY hY => ea_runV (As := []) (ea_at dt_X3_takesLine 22 rfl) ml_X3_62 mv_X3_takesCase (ok_X3_takesCase G m5  rY mY hY) sh_46 rfl rfl rfl (Nat.le_of_ble_eq_true rfl) rfl) rfl (fun r24 m23 => ?_)
        exact ev_zretG (ea_at dt_X3_takesLine 23 rfl) rfl ⟨by decide, by decide⟩ (fun h => hR _ h)
    · refine ev_aload_n (ea_at dt_X3_takesLine 13 rfl) rfl ?_
      refine ev_clI (F1 := F_X3_takesCounsel) (fun rY mY hY => ea_runV (As := []) (ea_at dt_X3_takesLine 14 rfl) ml_X3_57 mv_X3_takesCounsel (ok_X3_takesCounsel G m3  rY mY hY) sh_46 rfl rfl rfl (Nat.le_of_ble_eq_true rfl) rfl) rfl (fun r26 m25 => ?_)
      exact ev_zretG (ea_at dt_X3_takesLine 15 rfl) rfl ⟨by decide, by decide⟩ (fun h => hR _ h)
  · refine ev_aload_n (ea_at dt_X3_takesLine 5 rfl) rfl ?_
    refine ev_clI (F1 := F_X3_takesBird) (fun rY mY hY => ea_runV (As := []) (ea_at dt_X3_takesLine 6 rfl) ml_X3_52 mv_X3_takesBird (ok_X3_takesBird G m1  rY mY hY) sh_46 rfl rfl rfl (Nat.le_of_ble_eq_true rfl) rfl) rfl (fun r28 m27 => ?_)
    exact ev_zretG (ea_at dt_X3_takesLine 7 rfl) rfl ⟨by decide, by decide⟩ (fun h => hR _ h)
def F_X9_seesSign : ea_F := (ea_rm 8 0 0, cX9_seesSign, RX9, some .boolean, 2, [], 0, 0)
def D_X9_seesSign : List (Nat × Instr × Nat) := [(0, .aload_n 0, 1), (1, .getfield 15, 3), (4, .iconst 3, 1), (5, .if_icmp .ne 20, 3), (8, .aload_n 0, 1), (9, .getfield 30, 3), (12, .aload_n 0, 1), (13, .getfield 18, 3), (16, .iaload, 1), (17, .iload_n 1, 1), (18, .if_icmp .ne 7, 3), (21, .iconst 1, 1), (22, .goto 4, 3), (25, .iconst 0, 1), (26, .ireturn, 1)]
theorem dt_X9_seesSign : ∀ q ∈ D_X9_seesSign, decode cX9_seesSign q.1 = .ok q.2 := by decide +kernel
theorem mv_X9_seesSign : ea_MV yX9_seesSign (F_X9_seesSign) 1 := ⟨⟨List.mem_append_right _ (List.mem_of_getElem? (i := 7) (by decide +kernel)), List.mem_append_right _ (List.mem_of_getElem? (i := 793) (by decide +kernel)), ⟨by decide, by decide⟩, by decide +kernel⟩, List.mem_append_right _ (List.mem_of_getElem? (i := 791) (by decide +kernel)), List.mem_append_right _ (List.mem_of_getElem? (i := 792) (by decide +kernel))⟩
def f_X9_seesSign (a : Nat) (p1 : Int32) (m : ea_M) : Option (Int32 × ea_M) :=
  ea_bd (m a 2) fun x1 =>
  if x1 = 3 then
  ea_bd (m a 3) fun x2 =>
  ea_g x2 400 (ea_bd (m 1 (Int32.toNatClampNeg x2)) fun x3 =>
  if x3 = p1 then
  some (1, m)
  else
  some (0, m))
  else
  some (0, m)
set_option maxHeartbeats 300000 in
theorem ok_X9_seesSign (G : ea_G) (a : Nat) (p1 : Int32) (m : ea_M) (ha : ea_isReader a) (rZ : Int32) (mZ : ea_M) (hZ : f_X9_seesSign a p1 m = some (rZ, mZ)) : ea_Met G yX9_seesSign F_X9_seesSign [.ref a, .int p1] m (0, rZ, mZ) := by
  refine ea_met (F := F_X9_seesSign) (by decide +kernel) rfl rfl (Nat.le_of_ble_eq_true rfl) (by simp only [List.mem_cons, List.not_mem_nil, or_false]; intro v hv; rcases hv with rfl | rfl <;> rfl) ((?_ : ea_E G F_X9_seesSign (0, rZ, mZ) 0 [some (.ref a), some (.int p1)] [] m 0 0 (f_X9_seesSign a p1 m) (fun t => t = (rZ, mZ))) (rZ, mZ) hZ rfl)
  have hR : ∀ t : Int32 × ea_M, t = (rZ, mZ) → ((0, rZ, mZ) : ea_O) = (0, t) := fun t h => by rw [h]
  unfold f_X9_seesSign
  refine ev_aload_n (ea_at dt_X9_seesSign 0 rfl) rfl ?_
  refine ev_getI (ea_at dt_X9_seesSign 1 rfl) fl_X9_15 ha rfl ?_
  refine ev_i (fun x1 => ?_)
  refine ev_iconst (ea_at dt_X9_seesSign 2 rfl) ic_3 ?_
  refine ev_icmp_ne (tgt := 25) (ea_at dt_X9_seesSign 3 rfl) rfl (fun _ => ?_) (fun _ => ?_)
  · refine ev_aload_n (ea_at dt_X9_seesSign 4 rfl) rfl ?_
    refine ev_getR (ea_at dt_X9_seesSign 5 rfl) fl_X9_30 ha rfl ?_
    refine ev_aload_n (ea_at dt_X9_seesSign 6 rfl) rfl ?_
    refine ev_getI (ea_at dt_X9_seesSign 7 rfl) fl_X9_18 ha rfl ?_
    refine ev_i (fun x2 => ?_)
    refine ev_iaload (ea_at dt_X9_seesSign 8 rfl) sh_1 (by decide) ?_
    refine ev_i (fun x3 => ?_)
    refine ev_iload_n (ea_at dt_X9_seesSign 9 rfl) rfl ?_
    refine ev_icmp_ne (tgt := 25) (ea_at dt_X9_seesSign 10 rfl) rfl (fun _ => ?_) (fun _ => ?_)
    · refine ev_iconst (ea_at dt_X9_seesSign 11 rfl) ic_1 ?_
      refine ev_goto (tgt := 26) (ea_at dt_X9_seesSign 12 rfl) rfl ?_
      exact ev_zret (by decide) (ea_at dt_X9_seesSign 14 rfl) rfl ⟨by decide, by decide⟩ (fun h => hR _ h)
    · refine ev_iconst (ea_at dt_X9_seesSign 13 rfl) ic_0 ?_
      exact ev_zret (by decide) (ea_at dt_X9_seesSign 14 rfl) rfl ⟨by decide, by decide⟩ (fun h => hR _ h)
  · refine ev_iconst (ea_at dt_X9_seesSign 13 rfl) ic_0 ?_
    exact ev_zret (by decide) (ea_at dt_X9_seesSign 14 rfl) rfl ⟨by decide, by decide⟩ (fun h => hR _ h)
def F_X9_takesSign : ea_F := (ea_rm 10 0 0, cX9_takesSign, RX9, some .boolean, 2, [], 0, 0)
def D_X9_takesSign : List (Nat × Instr × Nat) := [(0, .aload_n 0, 1), (1, .iload_n 1, 1), (2, .invokevirtual 67, 3), (5, .ifCond .ne 8, 3), (8, .aload_n 0, 1), (9, .invokevirtual 63, 3), (12, .ireturn, 1), (13, .aload_n 0, 1), (14, .invokevirtual 43, 3), (17, .iconst 1, 1), (18, .ireturn, 1)]
theorem dt_X9_takesSign : ∀ q ∈ D_X9_takesSign, decode cX9_takesSign q.1 = .ok q.2 := by decide +kernel
theorem mv_X9_takesSign : ea_MV yX9_takesSign (F_X9_takesSign) 1 := ⟨⟨List.mem_append_right _ (List.mem_of_getElem? (i := 7) (by decide +kernel)), List.mem_append_right _ (List.mem_of_getElem? (i := 789) (by decide +kernel)), ⟨by decide, by decide⟩, by decide +kernel⟩, List.mem_append_right _ (List.mem_of_getElem? (i := 787) (by decide +kernel)), List.mem_append_right _ (List.mem_of_getElem? (i := 788) (by decide +kernel))⟩
def f_X9_takesSign (a : Nat) (p1 : Int32) (m : ea_M) : Option (Int32 × ea_M) :=
  ea_cl (f_X9_seesSign a p1 m) fun r2 m1 =>
  if r2 = 0 then
  ea_cl (f_X9_refuse a m1) fun r4 m3 =>
  ea_gz r4 (some (r4, m3))
  else
  ea_cl (f_X9_step a m1) fun r6 m5 =>
  some (1, m5)
set_option maxHeartbeats 300000 in
theorem ok_X9_takesSign (G : ea_G) (a : Nat) (p1 : Int32) (m : ea_M) (ha : ea_isReader a) (rZ : Int32) (mZ : ea_M) (hZ : f_X9_takesSign a p1 m = some (rZ, mZ)) : ea_Met G yX9_takesSign F_X9_takesSign [.ref a, .int p1] m (0, rZ, mZ) := by
  refine ea_met (F := F_X9_takesSign) (by decide +kernel) rfl rfl (Nat.le_of_ble_eq_true rfl) (by simp only [List.mem_cons, List.not_mem_nil, or_false]; intro v hv; rcases hv with rfl | rfl <;> rfl) ((?_ : ea_E G F_X9_takesSign (0, rZ, mZ) 0 [some (.ref a), some (.int p1)] [] m 0 0 (f_X9_takesSign a p1 m) (fun t => t = (rZ, mZ))) (rZ, mZ) hZ rfl)
  have hR : ∀ t : Int32 × ea_M, t = (rZ, mZ) → ((0, rZ, mZ) : ea_O) = (0, t) := fun t h => by rw [h]
  unfold f_X9_takesSign
  refine ev_aload_n (ea_at dt_X9_takesSign 0 rfl) rfl ?_
  refine ev_iload_n (ea_at dt_X9_takesSign 1 rfl) rfl ?_
  refine ev_clI (F1 := F_X9_seesSign) (fun rY mY hY => ea_runV (As := [.int p1]) (ea_at dt_X9_takesSign 2 rfl) ml_X9_67 mv_X9_seesSign (ok_X9_seesSign G a p1 m ha rY mY hY) ha rfl rfl rfl (Nat.le_of_ble_eq_true rfl) rfl) rfl (fun r2 m1 => ?_)
  refine ev_if_ne (tgt := 13) (ea_at dt_X9_takesSign 3 rfl) rfl (fun _ => ?_) (fun _ => ?_)
  · refine ev_aload_n (ea_at dt_X9_takesSign 4 rfl) rfl ?_
    refine ev_clI (F1 := F_X9_refuse) (fun rY mY hY => ea_runV (As := []) (ea_at dt_X9_takesSign 5 rfl) ml_X9_63 mv_X9_refuse (ok_X9_refuse G a m1 ha rY mY hY) ha rfl rfl rfl (Nat.le_of_ble_eq_true rfl) rfl) rfl (fun r4 m3 => ?_)
    exact ev_zretG (ea_at dt_X9_takesSign 6 rfl) rfl ⟨by decide, by decide⟩ (fun h => hR _ h)
  · refine ev_aload_n (ea_at dt_X9_takesSign 7 rfl) rfl ?_
    refine ev_clU (F1 := F_X9_step) (fun rY mY hY => ea_runV (As := []) (ea_at dt_X9_takesSign 8 rfl) ml_X9_43 mv_X9_step (ok_X9_step G a m1 ha rY mY hY) ha rfl rfl rfl (Nat.le_of_ble_eq_true rfl) rfl) rfl (fun r6 m5 => ?_)
    refine ev_iconst (ea_at dt_X9_takesSign 9 rfl) ic_1 ?_
    exact ev_zret (by decide) (ea_at dt_X9_takesSign 10 rfl) rfl ⟨by decide, by decide⟩ (fun h => hR _ h)
def F_X3_read : ea_F := (ea_rm 18 0 0, cX3_read, RX3, some .int, 5, [], 0, 0)
def D_X3_read : List (Nat × Instr × Nat) := [(0, .aload_n 0, 1), (1, .getfield 14, 3), (4, .iload_n 1, 1), (5, .invokevirtual 24, 3), (8, .aload_n 0, 1), (9, .getfield 14, 3), (12, .getfield 28, 3), (15, .ifCond .eq 7, 3), (18, .iconst 1, 1), (19, .goto 4, 3), (22, .iconst 0, 1), (23, .istore_n 2, 1), (24, .iconst 0, 1), (25, .istore_n 3, 1), (26, .iload_n 2, 1), (27, .ifCond .eq 70, 3), (30, .iload_n 3, 1), (31, .bipush 14, 2), (33, .if_icmp .gt 64, 3), (36, .iload_n 3, 1), (37, .bipush 14, 2), (39, .if_icmp .ge 10, 3), (42, .aload_n 0, 1), (43, .invokevirtual 32, 3), (46, .goto 10, 3), (49, .aload_n 0, 1), (50, .getfield 14, 3), (53, .invokevirtual 36, 3), (56, .istore 4, 2), (58, .iload 4, 2), (60, .ifCond .eq 29, 3), (63, .aload_n 0, 1), (64, .getfield 14, 3), (67, .getfield 28, 3), (70, .ifCond .eq 19, 3), (73, .aload_n 0, 1), (74, .getfield 14, 3), (77, .bipush 59, 2), (79, .invokevirtual 39, 3), (82, .ifCond .eq 7, 3), (85, .iconst 1, 1), (86, .goto 4, 3), (89, .iconst 0, 1), (90, .istore_n 2, 1), (91, .iinc 3 1, 3), (94, .goto (-68), 3), (97, .aload_n 0, 1), (98, .getfield 14, 3), (101, .getfield 43, 3), (104, .ireturn, 1)]
theorem dt_X3_read : ∀ q ∈ D_X3_read, decode cX3_read q.1 = .ok q.2 := by decide +kernel
theorem mv_X3_read : ea_MV yX3_read (F_X3_read) 1 := ⟨⟨List.mem_append_right _ (List.mem_of_getElem? (i := 6) (by decide +kernel)), List.mem_append_right _ (List.mem_of_getElem? (i := 650) (by decide +kernel)), ⟨by decide, by decide⟩, by decide +kernel⟩, List.mem_append_right _ (List.mem_of_getElem? (i := 648) (by decide +kernel)), List.mem_append_right _ (List.mem_of_getElem? (i := 649) (by decide +kernel))⟩
def f_X3_read_j90 (x13 : Int32) (x14 : Int32) (m15 : ea_M) : Option ((Int32 × Int32 × ea_M) ⊕ (ea_M)) :=
  some (.inl (x14, x13 + 1, m15))
def f_X3_read_j89 (x11 : Int32) (m12 : ea_M) : Option ((Int32 × Int32 × ea_M) ⊕ (ea_M)) :=
  f_X3_read_j90 x11 0 m12
def f_X3_read_j56 (x8 : Int32) (x9 : Int32) (m10 : ea_M) : Option ((Int32 × Int32 × ea_M) ⊕ (ea_M)) :=
  if x9 = 0 then
  f_X3_read_j89 x8 m10
  else
  ea_bd (m10 47 2) fun x16 =>
  if x16 = 0 then
  f_X3_read_j89 x8 m10
  else
  ea_cl (f_X9_takesSign 47 59 m10) fun r18 m17 =>
  if r18 = 0 then
  f_X3_read_j89 x8 m17
  else
  f_X3_read_j90 x8 1 m17
def f_X3_read_s26  (s26 : Int32 × Int32 × ea_M) : Option ((Int32 × Int32 × ea_M) ⊕ (ea_M)) :=
  if s26.1 = 0 then
  some (.inr s26.2.2)
  else
  if 14 < s26.2.1 then
  some (.inr s26.2.2)
  else
  if 14 ≤ s26.2.1 then
  ea_cl (f_X9_refuse 47 s26.2.2) fun r7 m6 =>
  f_X3_read_j56 s26.2.1 r7 m6
  else
  ea_cl (f_X3_takesLine s26.2.2) fun r20 m19 =>
  f_X3_read_j56 s26.2.1 r20 m19
def f_X3_read_j23 (x4 : Int32) (m5 : ea_M) : Option (Int32 × ea_M) :=
  (ea_loop f_X3_read_s26 ea_fuel (x4, 0, m5)).bind (fun x26s =>
  ea_bd (x26s 47 6) fun x21 =>
  some (x21, x26s))
def f_X3_read (p1 : Int32) (m : ea_M) : Option (Int32 × ea_M) :=
  ea_cl (f_X9_open 47 p1 m) fun r2 m1 =>
  ea_bd (m1 47 2) fun x3 =>
  if x3 = 0 then
  f_X3_read_j23 0 m1
  else
  f_X3_read_j23 1 m1
set_option maxHeartbeats 300000 in
theorem jn_X3_read_90 (G : ea_G) {res : ea_O}  (x13 : Int32) (x14 : Int32) (m15 : ea_M)  {Φ : ((Int32 × Int32 × ea_M) ⊕ (ea_M)) → Prop} (hC : ∀ s26 : Int32 × Int32 × ea_M, Φ (.inl s26) → ea_Ev G F_X3_read res 26 [some (.ref 46), none, some (.int s26.1), some (.int s26.2.1), none] [] s26.2.2 0 0) (hX : ∀ x26s : ea_M, Φ (.inr x26s) → ea_Ev G F_X3_read res 97 [some (.ref 46), none, none, none, none] [] x26s 0 0) : ea_E G F_X3_read res 90 [some (.ref 46), none, none, some (.int x13), none] [.int x14] m15 0 0 (f_X3_read_j90 x13 x14 m15) Φ := by
  unfold f_X3_read_j90
  refine ev_istore_n (ls' := [some (.ref 46), none, some (.int x14), some (.int x13), none]) (ea_at dt_X3_read 43 rfl) (ea_lt rfl) rfl ?_
  refine ev_iinc (ls' := [some (.ref 46), none, some (.int x14), some (.int (x13 + 1)), none]) (ea_at dt_X3_read 44 rfl) rfl (congrArg (fun z => _ + z) ic_1) (ea_lt rfl) rfl ?_
  refine ev_goto (tgt := 26) (ea_at dt_X3_read 45 rfl) rfl ?_
  exact ev_leaf (fun h => ea_drop (l' := [some (.ref 46), none, some (.int x14), some (.int (x13 + 1)), none]) ⟨Or.inr rfl, Or.inl rfl, Or.inr rfl, Or.inr rfl, Or.inl rfl, trivial⟩ (hC (x14, x13 + 1, m15) h))
set_option maxHeartbeats 300000 in
theorem jn_X3_read_89 (G : ea_G) {res : ea_O}  (x11 : Int32) (m12 : ea_M)  {Φ : ((Int32 × Int32 × ea_M) ⊕ (ea_M)) → Prop} (hC : ∀ s26 : Int32 × Int32 × ea_M, Φ (.inl s26) → ea_Ev G F_X3_read res 26 [some (.ref 46), none, some (.int s26.1), some (.int s26.2.1), none] [] s26.2.2 0 0) (hX : ∀ x26s : ea_M, Φ (.inr x26s) → ea_Ev G F_X3_read res 97 [some (.ref 46), none, none, none, none] [] x26s 0 0) : ea_E G F_X3_read res 89 [some (.ref 46), none, none, some (.int x11), none] [] m12 0 0 (f_X3_read_j89 x11 m12) Φ := by
  unfold f_X3_read_j89
  refine ev_iconst (ea_at dt_X3_read 42 rfl) ic_0 ?_
  exact ev_drop (l' := [some (.ref 46), none, none, some (.int x11), none]) ⟨Or.inr rfl, Or.inl rfl, Or.inl rfl, Or.inr rfl, Or.inl rfl, trivial⟩ (jn_X3_read_90 G x11 0 m12  hC hX)
set_option maxHeartbeats 300000 in
theorem jn_X3_read_56 (G : ea_G) {res : ea_O}  (x8 : Int32) (x9 : Int32) (m10 : ea_M)  {Φ : ((Int32 × Int32 × ea_M) ⊕ (ea_M)) → Prop} (hC : ∀ s26 : Int32 × Int32 × ea_M, Φ (.inl s26) → ea_Ev G F_X3_read res 26 [some (.ref 46), none, some (.int s26.1), some (.int s26.2.1), none] [] s26.2.2 0 0) (hX : ∀ x26s : ea_M, Φ (.inr x26s) → ea_Ev G F_X3_read res 97 [some (.ref 46), none, none, none, none] [] x26s 0 0) : ea_E G F_X3_read res 56 [some (.ref 46), none, none, some (.int x8), none] [.int x9] m10 0 0 (f_X3_read_j56 x8 x9 m10) Φ := by
  unfold f_X3_read_j56
  refine ev_istore (ls' := [some (.ref 46), none, none, some (.int x8), some (.int x9)]) (ea_at dt_X3_read 28 rfl) (ea_lt rfl) rfl ?_
  refine ev_iload (ea_at dt_X3_read 29 rfl) rfl ?_
  refine ev_if_eq (tgt := 89) (ea_at dt_X3_read 30 rfl) rfl (fun _ => ?_) (fun _ => ?_)
  · exact ev_drop (l' := [some (.ref 46), none, none, some (.int x8), none]) ⟨Or.inr rfl, Or.inl rfl, Or.inl rfl, Or.inr rfl, Or.inl rfl, trivial⟩ (jn_X3_read_89 G x8 m10  hC hX)
  · refine ev_aload_n (ea_at dt_X3_read 31 rfl) rfl ?_
    refine ev_getR (ea_at dt_X3_read 32 rfl) fl_X3_14 sh_46 rfl ?_
    refine ev_getI (ea_at dt_X3_read 33 rfl) fl_X3_28 sh_47 rfl ?_
    refine ev_i (fun x16 => ?_)
    refine ev_if_eq (tgt := 89) (ea_at dt_X3_read 34 rfl) rfl (fun _ => ?_) (fun _ => ?_)
    · exact ev_drop (l' := [some (.ref 46), none, none, some (.int x8), none]) ⟨Or.inr rfl, Or.inl rfl, Or.inl rfl, Or.inr rfl, Or.inl rfl, trivial⟩ (jn_X3_read_89 G x8 m10  hC hX)
    · refine ev_aload_n (ea_at dt_X3_read 35 rfl) rfl ?_
      refine ev_getR (ea_at dt_X3_read 36 rfl) fl_X3_14 sh_46 rfl ?_
      refine ev_bipush (ea_at dt_X3_read 37 rfl) bp_59 ?_
      refine ev_clI (F1 := F_X9_takesSign) (fun rY mY hY => ea_runV (As := [.int 59]) (ea_at dt_X3_read 38 rfl) ml_X3_39 mv_X9_takesSign (ok_X9_takesSign G 47 59 m10 is_Reader_47 rY mY hY) sh_47 rfl rfl rfl (Nat.le_of_ble_eq_true rfl) rfl) rfl (fun r18 m17 => ?_)
      refine ev_if_eq (tgt := 89) (ea_at dt_X3_read 39 rfl) rfl (fun _ => ?_) (fun _ => ?_)
      · exact ev_drop (l' := [some (.ref 46), none, none, some (.int x8), none]) ⟨Or.inr rfl, Or.inl rfl, Or.inl rfl, Or.inr rfl, Or.inl rfl, trivial⟩ (jn_X3_read_89 G x8 m17  hC hX)
      · refine ev_iconst (ea_at dt_X3_read 40 rfl) ic_1 ?_
        refine ev_goto (tgt := 90) (ea_at dt_X3_read 41 rfl) rfl ?_
        exact ev_drop (l' := [some (.ref 46), none, none, some (.int x8), none]) ⟨Or.inr rfl, Or.inl rfl, Or.inl rfl, Or.inr rfl, Or.inl rfl, trivial⟩ (jn_X3_read_90 G x8 1 m17  hC hX)
set_option maxHeartbeats 300000 in
theorem lp_X3_read_26 (G : ea_G) {res : ea_O}    {Ψ : ea_M → Prop} (hX : ∀ x26s : ea_M, Ψ x26s → ea_Ev G F_X3_read res 97 [some (.ref 46), none, none, none, none] [] x26s 0 0) : ∀ (f : Nat) (s26 : Int32 × Int32 × ea_M), ea_E G F_X3_read res 26 [some (.ref 46), none, some (.int s26.1), some (.int s26.2.1), none] [] s26.2.2 0 0 (ea_loop f_X3_read_s26 f s26) Ψ := by
  refine ev_loop (G := G) (F := F_X3_read) (res := res) (pc := 26) (st := []) (k := 0) (n := 0) (step := f_X3_read_s26) (Ψ := Ψ) (fun (s26 : Int32 × Int32 × ea_M) => [some (.ref 46), none, some (.int s26.1), some (.int s26.2.1), none]) (fun (s26 : Int32 × Int32 × ea_M) => s26.2.2) (fun s26 => ?_)
  have hC : ∀ s26 : Int32 × Int32 × ea_M, (Sum.elim (fun s26 : Int32 × Int32 × ea_M => ea_Ev G F_X3_read res 26 [some (.ref 46), none, some (.int s26.1), some (.int s26.2.1), none] [] s26.2.2 0 0) Ψ) (.inl s26) → ea_Ev G F_X3_read res 26 [some (.ref 46), none, some (.int s26.1), some (.int s26.2.1), none] [] s26.2.2 0 0 := fun _ h => h
  have hX : ∀ x26s : ea_M, (Sum.elim (fun s26 : Int32 × Int32 × ea_M => ea_Ev G F_X3_read res 26 [some (.ref 46), none, some (.int s26.1), some (.int s26.2.1), none] [] s26.2.2 0 0) Ψ) (.inr x26s) → ea_Ev G F_X3_read res 97 [some (.ref 46), none, none, none, none] [] x26s 0 0 := hX
  unfold f_X3_read_s26
  refine ev_iload_n (ea_at dt_X3_read 14 rfl) rfl ?_
  refine ev_if_eq (tgt := 97) (ea_at dt_X3_read 15 rfl) rfl (fun _ => ?_) (fun _ => ?_)
  · exact ev_leaf (fun h => ea_drop (l' := [some (.ref 46), none, none, none, none]) ⟨Or.inr rfl, Or.inl rfl, Or.inl rfl, Or.inl rfl, Or.inl rfl, trivial⟩ (hX s26.2.2 h))
  · refine ev_iload_n (ea_at dt_X3_read 16 rfl) rfl ?_
    refine ev_bipush (ea_at dt_X3_read 17 rfl) bp_14 ?_
    refine ev_icmp_gt (tgt := 97) (ea_at dt_X3_read 18 rfl) rfl (fun _ => ?_) (fun _ => ?_)
    · exact ev_leaf (fun h => ea_drop (l' := [some (.ref 46), none, none, none, none]) ⟨Or.inr rfl, Or.inl rfl, Or.inl rfl, Or.inl rfl, Or.inl rfl, trivial⟩ (hX s26.2.2 h))
    · refine ev_iload_n (ea_at dt_X3_read 19 rfl) rfl ?_
      refine ev_bipush (ea_at dt_X3_read 20 rfl) bp_14 ?_
      refine ev_icmp_ge (tgt := 49) (ea_at dt_X3_read 21 rfl) rfl (fun _ => ?_) (fun _ => ?_)
      · refine ev_aload_n (ea_at dt_X3_read 25 rfl) rfl ?_
        refine ev_getR (ea_at dt_X3_read 26 rfl) fl_X3_14 sh_46 rfl ?_
        refine ev_clI (F1 := F_X9_refuse) (fun rY mY hY => ea_runV (As := []) (ea_at dt_X3_read 27 rfl) ml_X3_36 mv_X9_refuse (ok_X9_refuse G 47 s26.2.2 is_Reader_47 rY mY hY) sh_47 rfl rfl rfl (Nat.le_of_ble_eq_true rfl) rfl) rfl (fun r7 m6 => ?_)
        exact ev_drop (l' := [some (.ref 46), none, none, some (.int s26.2.1), none]) ⟨Or.inr rfl, Or.inl rfl, Or.inl rfl, Or.inr rfl, Or.inl rfl, trivial⟩ (jn_X3_read_56 G s26.2.1 r7 m6  hC hX)
      · refine ev_aload_n (ea_at dt_X3_read 22 rfl) rfl ?_
        refine ev_clI (F1 := F_X3_takesLine) (fun rY mY hY => ea_runV (As := []) (ea_at dt_X3_read 23 rfl) ml_X3_32 mv_X3_takesLine (ok_X3_takesLine G s26.2.2  rY mY hY) sh_46 rfl rfl rfl (Nat.le_of_ble_eq_true rfl) rfl) rfl (fun r20 m19 => ?_)
        refine ev_goto (tgt := 56) (ea_at dt_X3_read 24 rfl) rfl ?_
        exact ev_drop (l' := [some (.ref 46), none, none, some (.int s26.2.1), none]) ⟨Or.inr rfl, Or.inl rfl, Or.inl rfl, Or.inr rfl, Or.inl rfl, trivial⟩ (jn_X3_read_56 G s26.2.1 r20 m19  hC hX)
set_option maxHeartbeats 300000 in
theorem jn_X3_read_23 (G : ea_G) {res : ea_O}  (x4 : Int32) (m5 : ea_M)  {Φ : (Int32 × ea_M) → Prop} (hR : ∀ t : Int32 × ea_M, Φ t → res = (0, t)) : ea_E G F_X3_read res 23 [some (.ref 46), none, none, none, none] [.int x4] m5 0 0 (f_X3_read_j23 x4 m5) Φ := by
  unfold f_X3_read_j23
  refine ev_istore_n (ls' := [some (.ref 46), none, some (.int x4), none, none]) (ea_at dt_X3_read 11 rfl) (ea_lt rfl) rfl ?_
  refine ev_iconst (ea_at dt_X3_read 12 rfl) ic_0 ?_
  refine ev_istore_n (ls' := [some (.ref 46), none, some (.int x4), some (.int 0), none]) (ea_at dt_X3_read 13 rfl) (ea_lt rfl) rfl ?_
  refine ev_drop (l' := [some (.ref 46), none, some (.int x4), some (.int 0), none]) ⟨Or.inr rfl, Or.inl rfl, Or.inr rfl, Or.inr rfl, Or.inl rfl, trivial⟩ ?_
  refine ev_bind (lp_X3_read_26 G   (fun x26s h => ?_) ea_fuel (x4, 0, m5))
  obtain ⟨t1, e1, q1⟩ := h
  refine (?_ : ea_E G F_X3_read res 97 [some (.ref 46), none, none, none, none] [] x26s 0 0 _ Φ) t1 e1 q1
  refine ev_aload_n (ea_at dt_X3_read 46 rfl) rfl ?_
  refine ev_getR (ea_at dt_X3_read 47 rfl) fl_X3_14 sh_46 rfl ?_
  refine ev_getI (ea_at dt_X3_read 48 rfl) fl_X3_43 sh_47 rfl ?_
  refine ev_i (fun x21 => ?_)
  exact ev_iret (ea_at dt_X3_read 49 rfl) rfl ⟨by decide, by decide⟩ (fun h => hR _ h)
set_option maxHeartbeats 300000 in
theorem ok_X3_read (G : ea_G) (p1 : Int32) (m : ea_M)  (rZ : Int32) (mZ : ea_M) (hZ : f_X3_read p1 m = some (rZ, mZ)) : ea_Met G yX3_read F_X3_read [.ref 46, .int p1] m (0, rZ, mZ) := by
  refine ea_met (F := F_X3_read) (by decide +kernel) rfl rfl (Nat.le_of_ble_eq_true rfl) (by simp only [List.mem_cons, List.not_mem_nil, or_false]; intro v hv; rcases hv with rfl | rfl <;> rfl) ((?_ : ea_E G F_X3_read (0, rZ, mZ) 0 [some (.ref 46), some (.int p1), none, none, none] [] m 0 0 (f_X3_read p1 m) (fun t => t = (rZ, mZ))) (rZ, mZ) hZ rfl)
  have hR : ∀ t : Int32 × ea_M, t = (rZ, mZ) → ((0, rZ, mZ) : ea_O) = (0, t) := fun t h => by rw [h]
  unfold f_X3_read
  refine ev_aload_n (ea_at dt_X3_read 0 rfl) rfl ?_
  refine ev_getR (ea_at dt_X3_read 1 rfl) fl_X3_14 sh_46 rfl ?_
  refine ev_iload_n (ea_at dt_X3_read 2 rfl) rfl ?_
  refine ev_clU (F1 := F_X9_open) (fun rY mY hY => ea_runV (As := [.int p1]) (ea_at dt_X3_read 3 rfl) ml_X3_24 mv_X9_open (ok_X9_open G 47 p1 m is_Reader_47 rY mY hY) sh_47 rfl rfl rfl (Nat.le_of_ble_eq_true rfl) rfl) rfl (fun r2 m1 => ?_)
  refine ev_aload_n (ea_at dt_X3_read 4 rfl) rfl ?_
  refine ev_getR (ea_at dt_X3_read 5 rfl) fl_X3_14 sh_46 rfl ?_
  refine ev_getI (ea_at dt_X3_read 6 rfl) fl_X3_28 sh_47 rfl ?_
  refine ev_i (fun x3 => ?_)
  refine ev_if_eq (tgt := 22) (ea_at dt_X3_read 7 rfl) rfl (fun _ => ?_) (fun _ => ?_)
  · refine ev_iconst (ea_at dt_X3_read 10 rfl) ic_0 ?_
    exact ev_drop (l' := [some (.ref 46), none, none, none, none]) ⟨Or.inr rfl, Or.inl rfl, Or.inl rfl, Or.inl rfl, Or.inl rfl, trivial⟩ (jn_X3_read_23 G 0 m1  hR)
  · refine ev_iconst (ea_at dt_X3_read 8 rfl) ic_1 ?_
    refine ev_goto (tgt := 23) (ea_at dt_X3_read 9 rfl) rfl ?_
    exact ev_drop (l' := [some (.ref 46), none, none, none, none]) ⟨Or.inr rfl, Or.inl rfl, Or.inl rfl, Or.inl rfl, Or.inl rfl, trivial⟩ (jn_X3_read_23 G 1 m1  hR)
def F_X11_forgetActs : ea_F := (ea_rm 8 0 0, cX11_forgetActs, RX11, none, 1, [], 0, 0)
def D_X11_forgetActs : List (Nat × Instr × Nat) := [(0, .aload_n 0, 1), (1, .iconst 0, 1), (2, .putfield 72, 3), (5, .return_, 1)]
theorem dt_X11_forgetActs : ∀ q ∈ D_X11_forgetActs, decode cX11_forgetActs q.1 = .ok q.2 := by decide +kernel
theorem mv_X11_forgetActs : ea_MV yX11_forgetActs (F_X11_forgetActs) 0 := ⟨⟨List.mem_append_right _ (List.mem_of_getElem? (i := 1) (by decide +kernel)), List.mem_append_right _ (List.mem_of_getElem? (i := 633) (by decide +kernel)), ⟨by decide, by decide⟩, by decide +kernel⟩, List.mem_append_right _ (List.mem_of_getElem? (i := 632) (by decide +kernel)), List.mem_append_left _ (List.mem_of_getElem? (i := 6) (by decide +kernel))⟩
def f_X11_forgetActs (m : ea_M) : Option (Int32 × ea_M) :=
  ea_bd (ea_st m 0 13 0) fun m1 =>
  some (0, m1)
set_option maxHeartbeats 300000 in
theorem ok_X11_forgetActs (G : ea_G) (m : ea_M)  (rZ : Int32) (mZ : ea_M) (hZ : f_X11_forgetActs m = some (rZ, mZ)) : ea_Met G yX11_forgetActs F_X11_forgetActs [.ref 0] m (0, rZ, mZ) := by
  refine ea_met (F := F_X11_forgetActs) (by decide +kernel) rfl rfl (Nat.le_of_ble_eq_true rfl) (by simp only [List.mem_cons, List.not_mem_nil, or_false]; intro v hv; rcases hv with rfl <;> rfl) ((?_ : ea_E G F_X11_forgetActs (0, rZ, mZ) 0 [some (.ref 0)] [] m 0 0 (f_X11_forgetActs m) (fun t => t = (rZ, mZ))) (rZ, mZ) hZ rfl)
  have hR : ∀ t : Int32 × ea_M, t = (rZ, mZ) → ((0, rZ, mZ) : ea_O) = (0, t) := fun t h => by rw [h]
  unfold f_X11_forgetActs
  refine ev_aload_n (ea_at dt_X11_forgetActs 0 rfl) rfl ?_
  refine ev_iconst (ea_at dt_X11_forgetActs 1 rfl) ic_0 ?_
  refine ev_putI (ea_at dt_X11_forgetActs 2 rfl) fl_X11_72 fp_11_13 sh_0 rfl ?_
  refine ev_m (fun m1 => ?_)
  exact ev_vret (ea_at dt_X11_forgetActs 3 rfl) rfl ⟨by decide, by decide⟩ (fun h => ⟨0, hR _ h⟩)
def F_X11_forgetFates : ea_F := (ea_rm 8 0 0, cX11_forgetFates, RX11, none, 1, [], 0, 0)
def D_X11_forgetFates : List (Nat × Instr × Nat) := [(0, .aload_n 0, 1), (1, .iconst 0, 1), (2, .putfield 102, 3), (5, .return_, 1)]
theorem dt_X11_forgetFates : ∀ q ∈ D_X11_forgetFates, decode cX11_forgetFates q.1 = .ok q.2 := by decide +kernel
theorem mv_X11_forgetFates : ea_MV yX11_forgetFates (F_X11_forgetFates) 0 := ⟨⟨List.mem_append_right _ (List.mem_of_getElem? (i := 1) (by decide +kernel)), List.mem_append_right _ (List.mem_of_getElem? (i := 616) (by decide +kernel)), ⟨by decide, by decide⟩, by decide +kernel⟩, List.mem_append_right _ (List.mem_of_getElem? (i := 615) (by decide +kernel)), List.mem_append_left _ (List.mem_of_getElem? (i := 5) (by decide +kernel))⟩
def f_X11_forgetFates (m : ea_M) : Option (Int32 × ea_M) :=
  ea_bd (ea_st m 0 18 0) fun m1 =>
  some (0, m1)
set_option maxHeartbeats 300000 in
theorem ok_X11_forgetFates (G : ea_G) (m : ea_M)  (rZ : Int32) (mZ : ea_M) (hZ : f_X11_forgetFates m = some (rZ, mZ)) : ea_Met G yX11_forgetFates F_X11_forgetFates [.ref 0] m (0, rZ, mZ) := by
  refine ea_met (F := F_X11_forgetFates) (by decide +kernel) rfl rfl (Nat.le_of_ble_eq_true rfl) (by simp only [List.mem_cons, List.not_mem_nil, or_false]; intro v hv; rcases hv with rfl <;> rfl) ((?_ : ea_E G F_X11_forgetFates (0, rZ, mZ) 0 [some (.ref 0)] [] m 0 0 (f_X11_forgetFates m) (fun t => t = (rZ, mZ))) (rZ, mZ) hZ rfl)
  have hR : ∀ t : Int32 × ea_M, t = (rZ, mZ) → ((0, rZ, mZ) : ea_O) = (0, t) := fun t h => by rw [h]
  unfold f_X11_forgetFates
  refine ev_aload_n (ea_at dt_X11_forgetFates 0 rfl) rfl ?_
  refine ev_iconst (ea_at dt_X11_forgetFates 1 rfl) ic_0 ?_
  refine ev_putZ (by decide) (ea_at dt_X11_forgetFates 2 rfl) fl_X11_102 fp_11_18 sh_0 rfl ?_
  refine ev_m (fun m1 => ?_)
  exact ev_vret (ea_at dt_X11_forgetFates 3 rfl) rfl ⟨by decide, by decide⟩ (fun h => ⟨0, hR _ h⟩)
def F_X11_court : ea_F := (ea_rm 19 1 6, cX11_court, RX11, some .int, 2, [], 1, 6)
def D_X11_court : List (Nat × Instr × Nat) := [(0, .aload_n 0, 1), (1, .invokevirtual 117, 3), (4, .istore_n 1, 1), (5, .aload_n 0, 1), (6, .getfield 34, 3), (9, .aload_n 0, 1), (10, .getfield 23, 3), (13, .invokevirtual 121, 3), (16, .aload_n 0, 1), (17, .aload_n 0, 1), (18, .getfield 45, 3), (21, .iload_n 1, 1), (22, .invokevirtual 125, 3), (25, .putfield 17, 3), (28, .aload_n 0, 1), (29, .getfield 17, 3), (32, .iconst (-1), 1), (33, .if_icmp .eq 13, 3), (36, .new 129, 3), (39, .dup, 1), (40, .ldc 131, 2), (42, .invokespecial 133, 3), (45, .athrow, 1), (46, .aload_n 0, 1), (47, .getfield 23, 3), (50, .getfield 136, 3), (53, .bipush 12, 2), (55, .if_icmp .lt 13, 3), (58, .new 139, 3), (61, .dup, 1), (62, .ldc 141, 2), (64, .invokespecial 143, 3), (67, .athrow, 1), (68, .aload_n 0, 1), (69, .getfield 34, 3), (72, .dup, 1), (73, .getfield 136, 3), (76, .iconst 1, 1), (77, .iadd, 1), (78, .putfield 136, 3), (81, .aload_n 0, 1), (82, .getfield 23, 3), (85, .aload_n 0, 1), (86, .getfield 34, 3), (89, .invokevirtual 121, 3), (92, .aload_n 0, 1), (93, .invokevirtual 144, 3), (96, .aload_n 0, 1), (97, .invokevirtual 147, 3), (100, .aload_n 0, 1), (101, .getfield 23, 3), (104, .getfield 136, 3), (107, .ireturn, 1)]
theorem dt_X11_court : ∀ q ∈ D_X11_court, decode cX11_court q.1 = .ok q.2 := by decide +kernel
theorem mv_X11_court : ea_MV yX11_court (F_X11_court) 0 := ⟨⟨List.mem_append_right _ (List.mem_of_getElem? (i := 1) (by decide +kernel)), List.mem_append_right _ (List.mem_of_getElem? (i := 642) (by decide +kernel)), ⟨by decide, by decide⟩, by decide +kernel⟩, List.mem_append_right _ (List.mem_of_getElem? (i := 640) (by decide +kernel)), List.mem_append_right _ (List.mem_of_getElem? (i := 641) (by decide +kernel))⟩
def f_X11_court (m : ea_M) : Option (ea_O) :=
  ea_cl (f_X11_useTapeUp m) fun r2 m1 =>
  ea_cl (f_X2_copyFrom 24 2 m1) fun r4 m3 =>
  ea_cl (f_X3_read r2 m3) fun r6 m5 =>
  ea_bd (ea_st m5 0 2 r6) fun m7 =>
  ea_bd (m7 0 2) fun x8 =>
  if x8 = (-1) then
  ea_bd (m7 2 7) fun x9 =>
  if x9 < 12 then
  ea_bd (m7 24 7) fun x10 =>
  ea_bd (ea_st m7 24 7 (x10 + 1)) fun m11 =>
  ea_cl (f_X2_copyFrom 2 24 m11) fun r13 m12 =>
  ea_cl (f_X11_forgetActs m12) fun r15 m14 =>
  ea_cl (f_X11_forgetFates m14) fun r17 m16 =>
  ea_bd (m16 2 7) fun x18 =>
  some (0, x18, m16)
  else
  some (5, 0, m7)
  else
  some (2, 0, m7)
set_option maxHeartbeats 300000 in
theorem ok_X11_court (G : ea_G) (m : ea_M)  (zZ : ea_O) (hZ : f_X11_court m = some zZ) : ea_Met G yX11_court F_X11_court [.ref 0] m zZ := by
  refine ea_met (F := F_X11_court) (by decide +kernel) rfl rfl (Nat.le_of_ble_eq_true rfl) (by simp only [List.mem_cons, List.not_mem_nil, or_false]; intro v hv; rcases hv with rfl <;> rfl) ((?_ : ea_E G F_X11_court zZ 0 [some (.ref 0), none] [] m 0 0 (f_X11_court m) (fun t => t = zZ)) zZ hZ rfl)
  have hR : ∀ t : ea_O, t = zZ → zZ = t := fun t h => h.symm
  unfold f_X11_court
  refine ev_aload_n (ea_at dt_X11_court 0 rfl) rfl ?_
  refine ev_clI (F1 := F_X11_useTapeUp) (fun rY mY hY => ea_runV (As := []) (ea_at dt_X11_court 1 rfl) ml_X11_117 mv_X11_useTapeUp (ok_X11_useTapeUp G m  rY mY hY) sh_0 rfl rfl rfl (Nat.le_of_ble_eq_true rfl) rfl) rfl (fun r2 m1 => ?_)
  refine ev_istore_n (ls' := [some (.ref 0), some (.int r2)]) (ea_at dt_X11_court 2 rfl) (ea_lt rfl) rfl ?_
  refine ev_aload_n (ea_at dt_X11_court 3 rfl) rfl ?_
  refine ev_getR (ea_at dt_X11_court 4 rfl) fl_X11_34 sh_0 rfl ?_
  refine ev_aload_n (ea_at dt_X11_court 5 rfl) rfl ?_
  refine ev_getR (ea_at dt_X11_court 6 rfl) fl_X11_23 sh_0 rfl ?_
  refine ev_clU (F1 := F_X2_copyFrom) (fun rY mY hY => ea_runV (As := [.ref 2]) (ea_at dt_X11_court 7 rfl) ml_X11_121 mv_X2_copyFrom (ok_X2_copyFrom G 24 2 m1 is_Court_24 is_Court_2 rY mY hY) sh_24 rfl rfl rfl (Nat.le_of_ble_eq_true rfl) rfl) rfl (fun r4 m3 => ?_)
  refine ev_aload_n (ea_at dt_X11_court 8 rfl) rfl ?_
  refine ev_aload_n (ea_at dt_X11_court 9 rfl) rfl ?_
  refine ev_getR (ea_at dt_X11_court 10 rfl) fl_X11_45 sh_0 rfl ?_
  refine ev_iload_n (ea_at dt_X11_court 11 rfl) rfl ?_
  refine ev_clI (F1 := F_X3_read) (fun rY mY hY => ea_runV (As := [.int r2]) (ea_at dt_X11_court 12 rfl) ml_X11_125 mv_X3_read (ok_X3_read G r2 m3  rY mY hY) sh_46 rfl rfl rfl (Nat.le_of_ble_eq_true rfl) rfl) rfl (fun r6 m5 => ?_)
  refine ev_putI (ea_at dt_X11_court 13 rfl) fl_X11_17 fp_11_2 sh_0 rfl ?_
  refine ev_m (fun m7 => ?_)
  refine ev_aload_n (ea_at dt_X11_court 14 rfl) rfl ?_
  refine ev_getI (ea_at dt_X11_court 15 rfl) fl_X11_17 sh_0 rfl ?_
  refine ev_i (fun x8 => ?_)
  refine ev_iconst (ea_at dt_X11_court 16 rfl) ic_m1 ?_
  refine ev_icmp_eq (tgt := 46) (ea_at dt_X11_court 17 rfl) rfl (fun _ => ?_) (fun _ => ?_)
  · refine ev_aload_n (ea_at dt_X11_court 23 rfl) rfl ?_
    refine ev_getR (ea_at dt_X11_court 24 rfl) fl_X11_23 sh_0 rfl ?_
    refine ev_getI (ea_at dt_X11_court 25 rfl) fl_X11_136 sh_2 rfl ?_
    refine ev_i (fun x9 => ?_)
    refine ev_bipush (ea_at dt_X11_court 26 rfl) bp_12 ?_
    refine ev_icmp_lt (tgt := 68) (ea_at dt_X11_court 27 rfl) rfl (fun _ => ?_) (fun _ => ?_)
    · refine ev_aload_n (ea_at dt_X11_court 33 rfl) rfl ?_
      refine ev_getR (ea_at dt_X11_court 34 rfl) fl_X11_34 sh_0 rfl ?_
      refine ev_dup (ea_at dt_X11_court 35 rfl) rfl ?_
      refine ev_getI (ea_at dt_X11_court 36 rfl) fl_X11_136 sh_24 rfl ?_
      refine ev_i (fun x10 => ?_)
      refine ev_iconst (ea_at dt_X11_court 37 rfl) ic_1 ?_
      refine ev_iadd (ea_at dt_X11_court 38 rfl) ?_
      refine ev_putI (ea_at dt_X11_court 39 rfl) fl_X11_136 fp_2_7 sh_24 rfl ?_
      refine ev_m (fun m11 => ?_)
      refine ev_aload_n (ea_at dt_X11_court 40 rfl) rfl ?_
      refine ev_getR (ea_at dt_X11_court 41 rfl) fl_X11_23 sh_0 rfl ?_
      refine ev_aload_n (ea_at dt_X11_court 42 rfl) rfl ?_
      refine ev_getR (ea_at dt_X11_court 43 rfl) fl_X11_34 sh_0 rfl ?_
      refine ev_clU (F1 := F_X2_copyFrom) (fun rY mY hY => ea_runV (As := [.ref 24]) (ea_at dt_X11_court 44 rfl) ml_X11_121 mv_X2_copyFrom (ok_X2_copyFrom G 2 24 m11 is_Court_2 is_Court_24 rY mY hY) sh_2 rfl rfl rfl (Nat.le_of_ble_eq_true rfl) rfl) rfl (fun r13 m12 => ?_)
      refine ev_aload_n (ea_at dt_X11_court 45 rfl) rfl ?_
      refine ev_clU (F1 := F_X11_forgetActs) (fun rY mY hY => ea_runV (As := []) (ea_at dt_X11_court 46 rfl) ml_X11_144 mv_X11_forgetActs (ok_X11_forgetActs G m12  rY mY hY) sh_0 rfl rfl rfl (Nat.le_of_ble_eq_true rfl) rfl) rfl (fun r15 m14 => ?_)
      refine ev_aload_n (ea_at dt_X11_court 47 rfl) rfl ?_
      refine ev_clU (F1 := F_X11_forgetFates) (fun rY mY hY => ea_runV (As := []) (ea_at dt_X11_court 48 rfl) ml_X11_147 mv_X11_forgetFates (ok_X11_forgetFates G m14  rY mY hY) sh_0 rfl rfl rfl (Nat.le_of_ble_eq_true rfl) rfl) rfl (fun r17 m16 => ?_)
      refine ev_aload_n (ea_at dt_X11_court 49 rfl) rfl ?_
      refine ev_getR (ea_at dt_X11_court 50 rfl) fl_X11_23 sh_0 rfl ?_
      refine ev_getI (ea_at dt_X11_court 51 rfl) fl_X11_136 sh_2 rfl ?_
      refine ev_i (fun x18 => ?_)
      exact ev_iret (ea_at dt_X11_court 52 rfl) rfl ⟨by decide, by decide⟩ (fun h => hR _ h)
    · exact ev_throwS (kx := 5) (j := 17) (ea_at dt_X11_court 28 rfl) (ea_at dt_X11_court 29 rfl) (ea_at dt_X11_court 30 rfl) (ea_at dt_X11_court 31 rfl) (ea_at dt_X11_court 32 rfl) rfl (by decide) rfl (by decide +kernel) ea_tw5 cl_X11_139 ini_5 ml_X11_143 rfl ⟨by decide, by decide, by decide, by decide, by decide, by decide⟩ (fun h => ⟨0, hR _ h⟩)
  · exact ev_throwS (kx := 2) (j := 16) (ea_at dt_X11_court 18 rfl) (ea_at dt_X11_court 19 rfl) (ea_at dt_X11_court 20 rfl) (ea_at dt_X11_court 21 rfl) (ea_at dt_X11_court 22 rfl) rfl (by decide) rfl (by decide +kernel) ea_tw2 cl_X11_129 ini_2 ml_X11_133 rfl ⟨by decide, by decide, by decide, by decide, by decide, by decide⟩ (fun h => ⟨0, hR _ h⟩)
def F_X7_clear : ea_F := (ea_rm 8 0 0, cX7_clear, RX7, none, 1, [], 0, 0)
def D_X7_clear : List (Nat × Instr × Nat) := [(0, .aload_n 0, 1), (1, .iconst 0, 1), (2, .putfield 9, 3), (5, .aload_n 0, 1), (6, .iconst 0, 1), (7, .putfield 15, 3), (10, .return_, 1)]
theorem dt_X7_clear : ∀ q ∈ D_X7_clear, decode cX7_clear q.1 = .ok q.2 := by decide +kernel
theorem mv_X7_clear : ea_MV yX7_clear (F_X7_clear) 0 := ⟨⟨List.mem_append_right _ (List.mem_of_getElem? (i := 5) (by decide +kernel)), List.mem_append_right _ (List.mem_of_getElem? (i := 894) (by decide +kernel)), ⟨by decide, by decide⟩, by decide +kernel⟩, List.mem_append_right _ (List.mem_of_getElem? (i := 892) (by decide +kernel)), List.mem_append_right _ (List.mem_of_getElem? (i := 893) (by decide +kernel))⟩
def f_X7_clear (a : Nat) (m : ea_M) : Option (Int32 × ea_M) :=
  ea_bd (ea_st m a 0 0) fun m1 =>
  ea_bd (ea_st m1 a 1 0) fun m2 =>
  some (0, m2)
set_option maxHeartbeats 300000 in
theorem ok_X7_clear (G : ea_G) (a : Nat) (m : ea_M) (ha : ea_isLaw a) (rZ : Int32) (mZ : ea_M) (hZ : f_X7_clear a m = some (rZ, mZ)) : ea_Met G yX7_clear F_X7_clear [.ref a] m (0, rZ, mZ) := by
  refine ea_met (F := F_X7_clear) (by decide +kernel) rfl rfl (Nat.le_of_ble_eq_true rfl) (by simp only [List.mem_cons, List.not_mem_nil, or_false]; intro v hv; rcases hv with rfl <;> rfl) ((?_ : ea_E G F_X7_clear (0, rZ, mZ) 0 [some (.ref a)] [] m 0 0 (f_X7_clear a m) (fun t => t = (rZ, mZ))) (rZ, mZ) hZ rfl)
  have hR : ∀ t : Int32 × ea_M, t = (rZ, mZ) → ((0, rZ, mZ) : ea_O) = (0, t) := fun t h => by rw [h]
  unfold f_X7_clear
  refine ev_aload_n (ea_at dt_X7_clear 0 rfl) rfl ?_
  refine ev_iconst (ea_at dt_X7_clear 1 rfl) ic_0 ?_
  refine ev_putI (ea_at dt_X7_clear 2 rfl) fl_X7_9 fp_7_0 ha.1 rfl ?_
  refine ev_m (fun m1 => ?_)
  refine ev_aload_n (ea_at dt_X7_clear 3 rfl) rfl ?_
  refine ev_iconst (ea_at dt_X7_clear 4 rfl) ic_0 ?_
  refine ev_putI (ea_at dt_X7_clear 5 rfl) fl_X7_15 fp_7_1 ha.1 rfl ?_
  refine ev_m (fun m2 => ?_)
  exact ev_vret (ea_at dt_X7_clear 6 rfl) rfl ⟨by decide, by decide⟩ (fun h => ⟨0, hR _ h⟩)
def F_X8_lineKind : ea_F := (ea_rm 14 0 0, cX8_lineKind, RX8, some .int, 1, [], 0, 0)
def D_X8_lineKind : List (Nat × Instr × Nat) := [(0, .aload_n 0, 1), (1, .getfield 14, 3), (4, .ldc 82, 2), (6, .invokevirtual 71, 3), (9, .ifCond .eq 5, 3), (12, .iconst 0, 1), (13, .ireturn, 1), (14, .aload_n 0, 1), (15, .getfield 14, 3), (18, .ldc 84, 2), (20, .invokevirtual 71, 3), (23, .ifCond .eq 5, 3), (26, .iconst 1, 1), (27, .ireturn, 1), (28, .aload_n 0, 1), (29, .getfield 14, 3), (32, .ldc 86, 2), (34, .invokevirtual 71, 3), (37, .ifCond .eq 5, 3), (40, .iconst 2, 1), (41, .ireturn, 1), (42, .aload_n 0, 1), (43, .getfield 14, 3), (46, .ldc 88, 2), (48, .invokevirtual 71, 3), (51, .ifCond .eq 7, 3), (54, .iconst 3, 1), (55, .goto 4, 3), (58, .iconst (-1), 1), (59, .ireturn, 1)]
theorem dt_X8_lineKind : ∀ q ∈ D_X8_lineKind, decode cX8_lineKind q.1 = .ok q.2 := by decide +kernel
theorem mv_X8_lineKind : ea_MV yX8_lineKind (F_X8_lineKind) 0 := ⟨⟨List.mem_append_right _ (List.mem_of_getElem? (i := 8) (by decide +kernel)), List.mem_append_right _ (List.mem_of_getElem? (i := 903) (by decide +kernel)), ⟨by decide, by decide⟩, by decide +kernel⟩, List.mem_append_right _ (List.mem_of_getElem? (i := 902) (by decide +kernel)), List.mem_append_left _ (List.mem_of_getElem? (i := 18) (by decide +kernel))⟩
def f_X8_lineKind (m : ea_M) : Option (Int32 × ea_M) :=
  ea_cl (f_X9_sees 49 18 m) fun r2 m1 =>
  if r2 = 0 then
  ea_cl (f_X9_sees 49 19 m1) fun r4 m3 =>
  if r4 = 0 then
  ea_cl (f_X9_sees 49 20 m3) fun r6 m5 =>
  if r6 = 0 then
  ea_cl (f_X9_sees 49 21 m5) fun r8 m7 =>
  if r8 = 0 then
  some ((-1), m7)
  else
  some (3, m7)
  else
  some (2, m5)
  else
  some (1, m3)
  else
  some (0, m1)
set_option maxHeartbeats 300000 in
theorem ok_X8_lineKind (G : ea_G) (m : ea_M)  (rZ : Int32) (mZ : ea_M) (hZ : f_X8_lineKind m = some (rZ, mZ)) : ea_Met G yX8_lineKind F_X8_lineKind [.ref 48] m (0, rZ, mZ) := by
  refine ea_met (F := F_X8_lineKind) (by decide +kernel) rfl rfl (Nat.le_of_ble_eq_true rfl) (by simp only [List.mem_cons, List.not_mem_nil, or_false]; intro v hv; rcases hv with rfl <;> rfl) ((?_ : ea_E G F_X8_lineKind (0, rZ, mZ) 0 [some (.ref 48)] [] m 0 0 (f_X8_lineKind m) (fun t => t = (rZ, mZ))) (rZ, mZ) hZ rfl)
  have hR : ∀ t : Int32 × ea_M, t = (rZ, mZ) → ((0, rZ, mZ) : ea_O) = (0, t) := fun t h => by rw [h]
  unfold f_X8_lineKind
  refine ev_aload_n (ea_at dt_X8_lineKind 0 rfl) rfl ?_
  refine ev_getR (ea_at dt_X8_lineKind 1 rfl) fl_X8_14 sh_48 rfl ?_
  refine ev_ldcS (j := 18) (ea_at dt_X8_lineKind 2 rfl) rfl ?_
  refine ev_clI (F1 := F_X9_sees) (fun rY mY hY => ea_runV (As := [.ref (1000 + 18)]) (ea_at dt_X8_lineKind 3 rfl) ml_X8_71 mv_X9_sees (ok_X9_sees G 49 18 m is_Reader_49 (by decide) rY mY hY) sh_49 rfl rfl rfl (Nat.le_of_ble_eq_true rfl) rfl) rfl (fun r2 m1 => ?_)
  refine ev_if_eq (tgt := 14) (ea_at dt_X8_lineKind 4 rfl) rfl (fun _ => ?_) (fun _ => ?_)
  · refine ev_aload_n (ea_at dt_X8_lineKind 7 rfl) rfl ?_
    refine ev_getR (ea_at dt_X8_lineKind 8 rfl) fl_X8_14 sh_48 rfl ?_
    refine ev_ldcS (j := 19) (ea_at dt_X8_lineKind 9 rfl) rfl ?_
    refine ev_clI (F1 := F_X9_sees) (fun rY mY hY => ea_runV (As := [.ref (1000 + 19)]) (ea_at dt_X8_lineKind 10 rfl) ml_X8_71 mv_X9_sees (ok_X9_sees G 49 19 m1 is_Reader_49 (by decide) rY mY hY) sh_49 rfl rfl rfl (Nat.le_of_ble_eq_true rfl) rfl) rfl (fun r4 m3 => ?_)
    refine ev_if_eq (tgt := 28) (ea_at dt_X8_lineKind 11 rfl) rfl (fun _ => ?_) (fun _ => ?_)
    · refine ev_aload_n (ea_at dt_X8_lineKind 14 rfl) rfl ?_
      refine ev_getR (ea_at dt_X8_lineKind 15 rfl) fl_X8_14 sh_48 rfl ?_
      refine ev_ldcS (j := 20) (ea_at dt_X8_lineKind 16 rfl) rfl ?_
      refine ev_clI (F1 := F_X9_sees) (fun rY mY hY => ea_runV (As := [.ref (1000 + 20)]) (ea_at dt_X8_lineKind 17 rfl) ml_X8_71 mv_X9_sees (ok_X9_sees G 49 20 m3 is_Reader_49 (by decide) rY mY hY) sh_49 rfl rfl rfl (Nat.le_of_ble_eq_true rfl) rfl) rfl (fun r6 m5 => ?_)
      refine ev_if_eq (tgt := 42) (ea_at dt_X8_lineKind 18 rfl) rfl (fun _ => ?_) (fun _ => ?_)
      · refine ev_aload_n (ea_at dt_X8_lineKind 21 rfl) rfl ?_
        refine ev_getR (ea_at dt_X8_lineKind 22 rfl) fl_X8_14 sh_48 rfl ?_
        refine ev_ldcS (j := 21) (ea_at dt_X8_lineKind 23 rfl) rfl ?_
        refine ev_clI (F1 := F_X9_sees) (fun rY mY hY => ea_runV (As := [.ref (1000 + 21)]) (ea_at dt_X8_lineKind 24 rfl) ml_X8_71 mv_X9_sees (ok_X9_sees G 49 21 m5 is_Reader_49 (by decide) rY mY hY) sh_49 rfl rfl rfl (Nat.le_of_ble_eq_true rfl) rfl) rfl (fun r8 m7 => ?_)
        refine ev_if_eq (tgt := 58) (ea_at dt_X8_lineKind 25 rfl) rfl (fun _ => ?_) (fun _ => ?_)
        · refine ev_iconst (ea_at dt_X8_lineKind 28 rfl) ic_m1 ?_
          exact ev_iret (ea_at dt_X8_lineKind 29 rfl) rfl ⟨by decide, by decide⟩ (fun h => hR _ h)
        · refine ev_iconst (ea_at dt_X8_lineKind 26 rfl) ic_3 ?_
          refine ev_goto (tgt := 59) (ea_at dt_X8_lineKind 27 rfl) rfl ?_
          exact ev_iret (ea_at dt_X8_lineKind 29 rfl) rfl ⟨by decide, by decide⟩ (fun h => hR _ h)
      · refine ev_iconst (ea_at dt_X8_lineKind 19 rfl) ic_2 ?_
        exact ev_iret (ea_at dt_X8_lineKind 20 rfl) rfl ⟨by decide, by decide⟩ (fun h => hR _ h)
    · refine ev_iconst (ea_at dt_X8_lineKind 12 rfl) ic_1 ?_
      exact ev_iret (ea_at dt_X8_lineKind 13 rfl) rfl ⟨by decide, by decide⟩ (fun h => hR _ h)
  · refine ev_iconst (ea_at dt_X8_lineKind 5 rfl) ic_0 ?_
    exact ev_iret (ea_at dt_X8_lineKind 6 rfl) rfl ⟨by decide, by decide⟩ (fun h => hR _ h)
def F_X7_openLine : ea_F := (ea_rm 8 0 0, cX7_openLine, RX7, none, 3, [], 0, 0)
def D_X7_openLine : List (Nat × Instr × Nat) := [(0, .aload_n 0, 1), (1, .getfield 9, 3), (4, .bipush 12, 2), (6, .if_icmp .ge 36, 3), (9, .aload_n 0, 1), (10, .getfield 24, 3), (13, .aload_n 0, 1), (14, .getfield 9, 3), (17, .iload_n 1, 1), (18, .iastore, 1), (19, .aload_n 0, 1), (20, .getfield 28, 3), (23, .aload_n 0, 1), (24, .getfield 9, 3), (27, .iload_n 2, 1), (28, .iastore, 1), (29, .aload_n 0, 1), (30, .getfield 31, 3), (33, .aload_n 0, 1), (34, .getfield 9, 3), (37, .aload_n 0, 1), (38, .getfield 15, 3), (41, .iastore, 1), (42, .return_, 1)]
theorem dt_X7_openLine : ∀ q ∈ D_X7_openLine, decode cX7_openLine q.1 = .ok q.2 := by decide +kernel
theorem mv_X7_openLine : ea_MV yX7_openLine (F_X7_openLine) 2 := ⟨⟨List.mem_append_right _ (List.mem_of_getElem? (i := 5) (by decide +kernel)), List.mem_append_right _ (List.mem_of_getElem? (i := 915) (by decide +kernel)), ⟨by decide, by decide⟩, by decide +kernel⟩, List.mem_append_right _ (List.mem_of_getElem? (i := 913) (by decide +kernel)), List.mem_append_right _ (List.mem_of_getElem? (i := 914) (by decide +kernel))⟩
def f_X7_openLine (a : Nat) (p1 : Int32) (p2 : Int32) (m : ea_M) : Option (Int32 × ea_M) :=
  ea_bd (m a 0) fun x1 =>
  if 12 ≤ x1 then
  some (0, m)
  else
  ea_bd (m a 0) fun x2 =>
  ea_g x2 12 (ea_bd (ea_st m (a + 1) (Int32.toNatClampNeg x2) p1) fun m3 =>
  ea_bd (m3 a 0) fun x4 =>
  ea_g x4 12 (ea_bd (ea_st m3 (a + 2) (Int32.toNatClampNeg x4) p2) fun m5 =>
  ea_bd (m5 a 0) fun x6 =>
  ea_bd (m5 a 1) fun x7 =>
  ea_g x6 12 (ea_bd (ea_st m5 (a + 3) (Int32.toNatClampNeg x6) x7) fun m8 =>
  some (0, m8))))
set_option maxHeartbeats 300000 in
theorem ok_X7_openLine (G : ea_G) (a : Nat) (p1 : Int32) (p2 : Int32) (m : ea_M) (ha : ea_isLaw a) (rZ : Int32) (mZ : ea_M) (hZ : f_X7_openLine a p1 p2 m = some (rZ, mZ)) : ea_Met G yX7_openLine F_X7_openLine [.ref a, .int p1, .int p2] m (0, rZ, mZ) := by
  refine ea_met (F := F_X7_openLine) (by decide +kernel) rfl rfl (Nat.le_of_ble_eq_true rfl) (by simp only [List.mem_cons, List.not_mem_nil, or_false]; intro v hv; rcases hv with rfl | rfl | rfl <;> rfl) ((?_ : ea_E G F_X7_openLine (0, rZ, mZ) 0 [some (.ref a), some (.int p1), some (.int p2)] [] m 0 0 (f_X7_openLine a p1 p2 m) (fun t => t = (rZ, mZ))) (rZ, mZ) hZ rfl)
  have hR : ∀ t : Int32 × ea_M, t = (rZ, mZ) → ((0, rZ, mZ) : ea_O) = (0, t) := fun t h => by rw [h]
  unfold f_X7_openLine
  refine ev_aload_n (ea_at dt_X7_openLine 0 rfl) rfl ?_
  refine ev_getI (ea_at dt_X7_openLine 1 rfl) fl_X7_9 ha.1 rfl ?_
  refine ev_i (fun x1 => ?_)
  refine ev_bipush (ea_at dt_X7_openLine 2 rfl) bp_12 ?_
  refine ev_icmp_ge (tgt := 42) (ea_at dt_X7_openLine 3 rfl) rfl (fun _ => ?_) (fun _ => ?_)
  · exact ev_vret (ea_at dt_X7_openLine 23 rfl) rfl ⟨by decide, by decide⟩ (fun h => ⟨0, hR _ h⟩)
  · refine ev_aload_n (ea_at dt_X7_openLine 4 rfl) rfl ?_
    refine ev_getR (ea_at dt_X7_openLine 5 rfl) fl_X7_24 ha.1 rfl ?_
    refine ev_aload_n (ea_at dt_X7_openLine 6 rfl) rfl ?_
    refine ev_getI (ea_at dt_X7_openLine 7 rfl) fl_X7_9 ha.1 rfl ?_
    refine ev_i (fun x2 => ?_)
    refine ev_iload_n (ea_at dt_X7_openLine 8 rfl) rfl ?_
    refine ev_iastore (ea_at dt_X7_openLine 9 rfl) ha.2.1 (by decide) ?_
    refine ev_m (fun m3 => ?_)
    refine ev_aload_n (ea_at dt_X7_openLine 10 rfl) rfl ?_
    refine ev_getR (ea_at dt_X7_openLine 11 rfl) fl_X7_28 ha.1 rfl ?_
    refine ev_aload_n (ea_at dt_X7_openLine 12 rfl) rfl ?_
    refine ev_getI (ea_at dt_X7_openLine 13 rfl) fl_X7_9 ha.1 rfl ?_
    refine ev_i (fun x4 => ?_)
    refine ev_iload_n (ea_at dt_X7_openLine 14 rfl) rfl ?_
    refine ev_iastore (ea_at dt_X7_openLine 15 rfl) ha.2.2.1 (by decide) ?_
    refine ev_m (fun m5 => ?_)
    refine ev_aload_n (ea_at dt_X7_openLine 16 rfl) rfl ?_
    refine ev_getR (ea_at dt_X7_openLine 17 rfl) fl_X7_31 ha.1 rfl ?_
    refine ev_aload_n (ea_at dt_X7_openLine 18 rfl) rfl ?_
    refine ev_getI (ea_at dt_X7_openLine 19 rfl) fl_X7_9 ha.1 rfl ?_
    refine ev_i (fun x6 => ?_)
    refine ev_aload_n (ea_at dt_X7_openLine 20 rfl) rfl ?_
    refine ev_getI (ea_at dt_X7_openLine 21 rfl) fl_X7_15 ha.1 rfl ?_
    refine ev_i (fun x7 => ?_)
    refine ev_iastore (ea_at dt_X7_openLine 22 rfl) ha.2.2.2.1 (by decide) ?_
    refine ev_m (fun m8 => ?_)
    exact ev_vret (ea_at dt_X7_openLine 23 rfl) rfl ⟨by decide, by decide⟩ (fun h => ⟨0, hR _ h⟩)
def F_X7_put : ea_F := (ea_rm 8 0 0, cX7_put, RX7, none, 2, [], 0, 0)
def D_X7_put : List (Nat × Instr × Nat) := [(0, .aload_n 0, 1), (1, .getfield 15, 3), (4, .sipush 400, 3), (7, .if_icmp .ge 23, 3), (10, .aload_n 0, 1), (11, .getfield 37, 3), (14, .aload_n 0, 1), (15, .getfield 15, 3), (18, .iload_n 1, 1), (19, .iastore, 1), (20, .aload_n 0, 1), (21, .dup, 1), (22, .getfield 15, 3), (25, .iconst 1, 1), (26, .iadd, 1), (27, .putfield 15, 3), (30, .return_, 1)]
theorem dt_X7_put : ∀ q ∈ D_X7_put, decode cX7_put q.1 = .ok q.2 := by decide +kernel
theorem mv_X7_put : ea_MV yX7_put (F_X7_put) 1 := ⟨⟨List.mem_append_right _ (List.mem_of_getElem? (i := 5) (by decide +kernel)), List.mem_append_right _ (List.mem_of_getElem? (i := 938) (by decide +kernel)), ⟨by decide, by decide⟩, by decide +kernel⟩, List.mem_append_right _ (List.mem_of_getElem? (i := 936) (by decide +kernel)), List.mem_append_right _ (List.mem_of_getElem? (i := 937) (by decide +kernel))⟩
def f_X7_put (a : Nat) (p1 : Int32) (m : ea_M) : Option (Int32 × ea_M) :=
  ea_bd (m a 1) fun x1 =>
  if 400 ≤ x1 then
  some (0, m)
  else
  ea_bd (m a 1) fun x2 =>
  ea_g x2 400 (ea_bd (ea_st m (a + 5) (Int32.toNatClampNeg x2) p1) fun m3 =>
  ea_bd (m3 a 1) fun x4 =>
  ea_bd (ea_st m3 a 1 (x4 + 1)) fun m5 =>
  some (0, m5))
set_option maxHeartbeats 300000 in
theorem ok_X7_put (G : ea_G) (a : Nat) (p1 : Int32) (m : ea_M) (ha : ea_isLaw a) (rZ : Int32) (mZ : ea_M) (hZ : f_X7_put a p1 m = some (rZ, mZ)) : ea_Met G yX7_put F_X7_put [.ref a, .int p1] m (0, rZ, mZ) := by
  refine ea_met (F := F_X7_put) (by decide +kernel) rfl rfl (Nat.le_of_ble_eq_true rfl) (by simp only [List.mem_cons, List.not_mem_nil, or_false]; intro v hv; rcases hv with rfl | rfl <;> rfl) ((?_ : ea_E G F_X7_put (0, rZ, mZ) 0 [some (.ref a), some (.int p1)] [] m 0 0 (f_X7_put a p1 m) (fun t => t = (rZ, mZ))) (rZ, mZ) hZ rfl)
  have hR : ∀ t : Int32 × ea_M, t = (rZ, mZ) → ((0, rZ, mZ) : ea_O) = (0, t) := fun t h => by rw [h]
  unfold f_X7_put
  refine ev_aload_n (ea_at dt_X7_put 0 rfl) rfl ?_
  refine ev_getI (ea_at dt_X7_put 1 rfl) fl_X7_15 ha.1 rfl ?_
  refine ev_i (fun x1 => ?_)
  refine ev_sipush (ea_at dt_X7_put 2 rfl) sp_400 ?_
  refine ev_icmp_ge (tgt := 30) (ea_at dt_X7_put 3 rfl) rfl (fun _ => ?_) (fun _ => ?_)
  · exact ev_vret (ea_at dt_X7_put 16 rfl) rfl ⟨by decide, by decide⟩ (fun h => ⟨0, hR _ h⟩)
  · refine ev_aload_n (ea_at dt_X7_put 4 rfl) rfl ?_
    refine ev_getR (ea_at dt_X7_put 5 rfl) fl_X7_37 ha.1 rfl ?_
    refine ev_aload_n (ea_at dt_X7_put 6 rfl) rfl ?_
    refine ev_getI (ea_at dt_X7_put 7 rfl) fl_X7_15 ha.1 rfl ?_
    refine ev_i (fun x2 => ?_)
    refine ev_iload_n (ea_at dt_X7_put 8 rfl) rfl ?_
    refine ev_iastore (ea_at dt_X7_put 9 rfl) ha.2.2.2.2.2.1 (by decide) ?_
    refine ev_m (fun m3 => ?_)
    refine ev_aload_n (ea_at dt_X7_put 10 rfl) rfl ?_
    refine ev_dup (ea_at dt_X7_put 11 rfl) rfl ?_
    refine ev_getI (ea_at dt_X7_put 12 rfl) fl_X7_15 ha.1 rfl ?_
    refine ev_i (fun x4 => ?_)
    refine ev_iconst (ea_at dt_X7_put 13 rfl) ic_1 ?_
    refine ev_iadd (ea_at dt_X7_put 14 rfl) ?_
    refine ev_putI (ea_at dt_X7_put 15 rfl) fl_X7_15 fp_7_1 ha.1 rfl ?_
    refine ev_m (fun m5 => ?_)
    exact ev_vret (ea_at dt_X7_put 16 rfl) rfl ⟨by decide, by decide⟩ (fun h => ⟨0, hR _ h⟩)
def F_X7_putFact : ea_F := (ea_rm 9 0 0, cX7_putFact, RX7, none, 2, [], 0, 0)
def D_X7_putFact : List (Nat × Instr × Nat) := [(0, .aload_n 0, 1), (1, .iconst (-1), 1), (2, .iload_n 1, 1), (3, .isub, 1), (4, .invokevirtual 52, 3), (7, .return_, 1)]
theorem dt_X7_putFact : ∀ q ∈ D_X7_putFact, decode cX7_putFact q.1 = .ok q.2 := by decide +kernel
theorem mv_X7_putFact : ea_MV yX7_putFact (F_X7_putFact) 1 := ⟨⟨List.mem_append_right _ (List.mem_of_getElem? (i := 5) (by decide +kernel)), List.mem_append_right _ (List.mem_of_getElem? (i := 945) (by decide +kernel)), ⟨by decide, by decide⟩, by decide +kernel⟩, List.mem_append_right _ (List.mem_of_getElem? (i := 943) (by decide +kernel)), List.mem_append_right _ (List.mem_of_getElem? (i := 944) (by decide +kernel))⟩
def f_X7_putFact (a : Nat) (p1 : Int32) (m : ea_M) : Option (Int32 × ea_M) :=
  ea_cl (f_X7_put a ((-1) - p1) m) fun r2 m1 =>
  some (0, m1)
set_option maxHeartbeats 300000 in
theorem ok_X7_putFact (G : ea_G) (a : Nat) (p1 : Int32) (m : ea_M) (ha : ea_isLaw a) (rZ : Int32) (mZ : ea_M) (hZ : f_X7_putFact a p1 m = some (rZ, mZ)) : ea_Met G yX7_putFact F_X7_putFact [.ref a, .int p1] m (0, rZ, mZ) := by
  refine ea_met (F := F_X7_putFact) (by decide +kernel) rfl rfl (Nat.le_of_ble_eq_true rfl) (by simp only [List.mem_cons, List.not_mem_nil, or_false]; intro v hv; rcases hv with rfl | rfl <;> rfl) ((?_ : ea_E G F_X7_putFact (0, rZ, mZ) 0 [some (.ref a), some (.int p1)] [] m 0 0 (f_X7_putFact a p1 m) (fun t => t = (rZ, mZ))) (rZ, mZ) hZ rfl)
  have hR : ∀ t : Int32 × ea_M, t = (rZ, mZ) → ((0, rZ, mZ) : ea_O) = (0, t) := fun t h => by rw [h]
  unfold f_X7_putFact
  refine ev_aload_n (ea_at dt_X7_putFact 0 rfl) rfl ?_
  refine ev_iconst (ea_at dt_X7_putFact 1 rfl) ic_m1 ?_
  refine ev_iload_n (ea_at dt_X7_putFact 2 rfl) rfl ?_
  refine ev_isub (ea_at dt_X7_putFact 3 rfl) ?_
  refine ev_clU (F1 := F_X7_put) (fun rY mY hY => ea_runV (As := [.int ((-1) - p1)]) (ea_at dt_X7_putFact 4 rfl) ml_X7_52 mv_X7_put (ok_X7_put G a ((-1) - p1) m ha rY mY hY) ha.1 rfl rfl rfl (Nat.le_of_ble_eq_true rfl) rfl) rfl (fun r2 m1 => ?_)
  exact ev_vret (ea_at dt_X7_putFact 5 rfl) rfl ⟨by decide, by decide⟩ (fun h => ⟨0, hR _ h⟩)
def F_X8_factSeen : ea_F := (ea_rm 14 0 0, cX8_factSeen, RX8, some .int, 1, [], 0, 0)
def D_X8_factSeen : List (Nat × Instr × Nat) := [(0, .aload_n 0, 1), (1, .getfield 14, 3), (4, .ldc 124, 2), (6, .invokevirtual 71, 3), (9, .ifCond .eq 5, 3), (12, .iconst 0, 1), (13, .ireturn, 1), (14, .aload_n 0, 1), (15, .getfield 14, 3), (18, .ldc 126, 2), (20, .invokevirtual 71, 3), (23, .ifCond .eq 5, 3), (26, .iconst 1, 1), (27, .ireturn, 1), (28, .aload_n 0, 1), (29, .getfield 14, 3), (32, .ldc 128, 2), (34, .invokevirtual 71, 3), (37, .ifCond .eq 5, 3), (40, .iconst 2, 1), (41, .ireturn, 1), (42, .aload_n 0, 1), (43, .getfield 14, 3), (46, .ldc 130, 2), (48, .invokevirtual 71, 3), (51, .ifCond .eq 5, 3), (54, .iconst 3, 1), (55, .ireturn, 1), (56, .aload_n 0, 1), (57, .getfield 14, 3), (60, .ldc 132, 2), (62, .invokevirtual 71, 3), (65, .ifCond .eq 5, 3), (68, .iconst 4, 1), (69, .ireturn, 1), (70, .aload_n 0, 1), (71, .getfield 14, 3), (74, .ldc 134, 2), (76, .invokevirtual 71, 3), (79, .ifCond .eq 7, 3), (82, .iconst 5, 1), (83, .goto 4, 3), (86, .iconst (-1), 1), (87, .ireturn, 1)]
theorem dt_X8_factSeen : ∀ q ∈ D_X8_factSeen, decode cX8_factSeen q.1 = .ok q.2 := by decide +kernel
theorem mv_X8_factSeen : ea_MV yX8_factSeen (F_X8_factSeen) 0 := ⟨⟨List.mem_append_right _ (List.mem_of_getElem? (i := 8) (by decide +kernel)), List.mem_append_right _ (List.mem_of_getElem? (i := 954) (by decide +kernel)), ⟨by decide, by decide⟩, by decide +kernel⟩, List.mem_append_right _ (List.mem_of_getElem? (i := 953) (by decide +kernel)), List.mem_append_left _ (List.mem_of_getElem? (i := 24) (by decide +kernel))⟩
def f_X8_factSeen (m : ea_M) : Option (Int32 × ea_M) :=
  ea_cl (f_X9_sees 49 26 m) fun r2 m1 =>
  if r2 = 0 then
  ea_cl (f_X9_sees 49 27 m1) fun r4 m3 =>
  if r4 = 0 then
  ea_cl (f_X9_sees 49 28 m3) fun r6 m5 =>
  if r6 = 0 then
  ea_cl (f_X9_sees 49 29 m5) fun r8 m7 =>
  if r8 = 0 then
  ea_cl (f_X9_sees 49 30 m7) fun r10 m9 =>
  if r10 = 0 then
  ea_cl (f_X9_sees 49 31 m9) fun r12 m11 =>
  if r12 = 0 then
  some ((-1), m11)
  else
  some (5, m11)
  else
  some (4, m9)
  else
  some (3, m7)
  else
  some (2, m5)
  else
  some (1, m3)
  else
  some (0, m1)
set_option maxHeartbeats 300000 in
theorem ok_X8_factSeen (G : ea_G) (m : ea_M)  (rZ : Int32) (mZ : ea_M) (hZ : f_X8_factSeen m = some (rZ, mZ)) : ea_Met G yX8_factSeen F_X8_factSeen [.ref 48] m (0, rZ, mZ) := by
  refine ea_met (F := F_X8_factSeen) (by decide +kernel) rfl rfl (Nat.le_of_ble_eq_true rfl) (by simp only [List.mem_cons, List.not_mem_nil, or_false]; intro v hv; rcases hv with rfl <;> rfl) ((?_ : ea_E G F_X8_factSeen (0, rZ, mZ) 0 [some (.ref 48)] [] m 0 0 (f_X8_factSeen m) (fun t => t = (rZ, mZ))) (rZ, mZ) hZ rfl)
  have hR : ∀ t : Int32 × ea_M, t = (rZ, mZ) → ((0, rZ, mZ) : ea_O) = (0, t) := fun t h => by rw [h]
  unfold f_X8_factSeen
  refine ev_aload_n (ea_at dt_X8_factSeen 0 rfl) rfl ?_
  refine ev_getR (ea_at dt_X8_factSeen 1 rfl) fl_X8_14 sh_48 rfl ?_
  refine ev_ldcS (j := 26) (ea_at dt_X8_factSeen 2 rfl) rfl ?_
  refine ev_clI (F1 := F_X9_sees) (fun rY mY hY => ea_runV (As := [.ref (1000 + 26)]) (ea_at dt_X8_factSeen 3 rfl) ml_X8_71 mv_X9_sees (ok_X9_sees G 49 26 m is_Reader_49 (by decide) rY mY hY) sh_49 rfl rfl rfl (Nat.le_of_ble_eq_true rfl) rfl) rfl (fun r2 m1 => ?_)
  refine ev_if_eq (tgt := 14) (ea_at dt_X8_factSeen 4 rfl) rfl (fun _ => ?_) (fun _ => ?_)
  · refine ev_aload_n (ea_at dt_X8_factSeen 7 rfl) rfl ?_
    refine ev_getR (ea_at dt_X8_factSeen 8 rfl) fl_X8_14 sh_48 rfl ?_
    refine ev_ldcS (j := 27) (ea_at dt_X8_factSeen 9 rfl) rfl ?_
    refine ev_clI (F1 := F_X9_sees) (fun rY mY hY => ea_runV (As := [.ref (1000 + 27)]) (ea_at dt_X8_factSeen 10 rfl) ml_X8_71 mv_X9_sees (ok_X9_sees G 49 27 m1 is_Reader_49 (by decide) rY mY hY) sh_49 rfl rfl rfl (Nat.le_of_ble_eq_true rfl) rfl) rfl (fun r4 m3 => ?_)
    refine ev_if_eq (tgt := 28) (ea_at dt_X8_factSeen 11 rfl) rfl (fun _ => ?_) (fun _ => ?_)
    · refine ev_aload_n (ea_at dt_X8_factSeen 14 rfl) rfl ?_
      refine ev_getR (ea_at dt_X8_factSeen 15 rfl) fl_X8_14 sh_48 rfl ?_
      refine ev_ldcS (j := 28) (ea_at dt_X8_factSeen 16 rfl) rfl ?_
      refine ev_clI (F1 := F_X9_sees) (fun rY mY hY => ea_runV (As := [.ref (1000 + 28)]) (ea_at dt_X8_factSeen 17 rfl) ml_X8_71 mv_X9_sees (ok_X9_sees G 49 28 m3 is_Reader_49 (by decide) rY mY hY) sh_49 rfl rfl rfl (Nat.le_of_ble_eq_true rfl) rfl) rfl (fun r6 m5 => ?_)
      refine ev_if_eq (tgt := 42) (ea_at dt_X8_factSeen 18 rfl) rfl (fun _ => ?_) (fun _ => ?_)
      · refine ev_aload_n (ea_at dt_X8_factSeen 21 rfl) rfl ?_
        refine ev_getR (ea_at dt_X8_factSeen 22 rfl) fl_X8_14 sh_48 rfl ?_
        refine ev_ldcS (j := 29) (ea_at dt_X8_factSeen 23 rfl) rfl ?_
        refine ev_clI (F1 := F_X9_sees) (fun rY mY hY => ea_runV (As := [.ref (1000 + 29)]) (ea_at dt_X8_factSeen 24 rfl) ml_X8_71 mv_X9_sees (ok_X9_sees G 49 29 m5 is_Reader_49 (by decide) rY mY hY) sh_49 rfl rfl rfl (Nat.le_of_ble_eq_true rfl) rfl) rfl (fun r8 m7 => ?_)
        refine ev_if_eq (tgt := 56) (ea_at dt_X8_factSeen 25 rfl) rfl (fun _ => ?_) (fun _ => ?_)
        · refine ev_aload_n (ea_at dt_X8_factSeen 28 rfl) rfl ?_
          refine ev_getR (ea_at dt_X8_factSeen 29 rfl) fl_X8_14 sh_48 rfl ?_
          refine ev_ldcS (j := 30) (ea_at dt_X8_factSeen 30 rfl) rfl ?_
          refine ev_clI (F1 := F_X9_sees) (fun rY mY hY => ea_runV (As := [.ref (1000 + 30)]) (ea_at dt_X8_factSeen 31 rfl) ml_X8_71 mv_X9_sees (ok_X9_sees G 49 30 m7 is_Reader_49 (by decide) rY mY hY) sh_49 rfl rfl rfl (Nat.le_of_ble_eq_true rfl) rfl) rfl (fun r10 m9 => ?_)
          refine ev_if_eq (tgt := 70) (ea_at dt_X8_factSeen 32 rfl) rfl (fun _ => ?_) (fun _ => ?_)
          · refine ev_aload_n (ea_at dt_X8_factSeen 35 rfl) rfl ?_
            refine ev_getR (ea_at dt_X8_factSeen 36 rfl) fl_X8_14 sh_48 rfl ?_
            refine ev_ldcS (j := 31) (ea_at dt_X8_factSeen 37 rfl) rfl ?_
            refine ev_clI (F1 := F_X9_sees) (fun rY mY hY => ea_runV (As := [.ref (1000 + 31)]) (ea_at dt_X8_factSeen 38 rfl) ml_X8_71 mv_X9_sees (ok_X9_sees G 49 31 m9 is_Reader_49 (by decide) rY mY hY) sh_49 rfl rfl rfl (Nat.le_of_ble_eq_true rfl) rfl) rfl (fun r12 m11 => ?_)
            refine ev_if_eq (tgt := 86) (ea_at dt_X8_factSeen 39 rfl) rfl (fun _ => ?_) (fun _ => ?_)
            · refine ev_iconst (ea_at dt_X8_factSeen 42 rfl) ic_m1 ?_
              exact ev_iret (ea_at dt_X8_factSeen 43 rfl) rfl ⟨by decide, by decide⟩ (fun h => hR _ h)
            · refine ev_iconst (ea_at dt_X8_factSeen 40 rfl) ic_5 ?_
              refine ev_goto (tgt := 87) (ea_at dt_X8_factSeen 41 rfl) rfl ?_
              exact ev_iret (ea_at dt_X8_factSeen 43 rfl) rfl ⟨by decide, by decide⟩ (fun h => hR _ h)
          · refine ev_iconst (ea_at dt_X8_factSeen 33 rfl) ic_4 ?_
            exact ev_iret (ea_at dt_X8_factSeen 34 rfl) rfl ⟨by decide, by decide⟩ (fun h => hR _ h)
        · refine ev_iconst (ea_at dt_X8_factSeen 26 rfl) ic_3 ?_
          exact ev_iret (ea_at dt_X8_factSeen 27 rfl) rfl ⟨by decide, by decide⟩ (fun h => hR _ h)
      · refine ev_iconst (ea_at dt_X8_factSeen 19 rfl) ic_2 ?_
        exact ev_iret (ea_at dt_X8_factSeen 20 rfl) rfl ⟨by decide, by decide⟩ (fun h => hR _ h)
    · refine ev_iconst (ea_at dt_X8_factSeen 12 rfl) ic_1 ?_
      exact ev_iret (ea_at dt_X8_factSeen 13 rfl) rfl ⟨by decide, by decide⟩ (fun h => hR _ h)
  · refine ev_iconst (ea_at dt_X8_factSeen 5 rfl) ic_0 ?_
    exact ev_iret (ea_at dt_X8_factSeen 6 rfl) rfl ⟨by decide, by decide⟩ (fun h => hR _ h)
def F_X8_takesSum : ea_F := (ea_rm 15 0 0, cX8_takesSum, RX8, some .boolean, 3, [], 0, 0)
def D_X8_takesSum : List (Nat × Instr × Nat) := [(0, .iconst 0, 1), (1, .istore_n 1, 1), (2, .iload_n 1, 1), (3, .sipush 400, 3), (6, .if_icmp .ge 104, 3), (9, .aload_n 0, 1), (10, .invokevirtual 121, 3), (13, .istore_n 2, 1), (14, .iload_n 2, 1), (15, .iconst (-1), 1), (16, .if_icmp .eq 21, 3), (19, .aload_n 0, 1), (20, .getfield 20, 3), (23, .iload_n 2, 1), (24, .invokevirtual 115, 3), (27, .aload_n 0, 1), (28, .getfield 14, 3), (31, .invokevirtual 55, 3), (34, .goto 36, 3), (37, .aload_n 0, 1), (38, .getfield 14, 3), (41, .iconst 0, 1), (42, .sipush 999, 3), (45, .invokevirtual 58, 3), (48, .ifCond .eq 20, 3), (51, .aload_n 0, 1), (52, .getfield 20, 3), (55, .aload_n 0, 1), (56, .getfield 14, 3), (59, .getfield 62, 3), (62, .invokevirtual 95, 3), (65, .goto 5, 3), (68, .iconst 0, 1), (69, .ireturn, 1), (70, .iload_n 1, 1), (71, .ifCond .le 12, 3), (74, .aload_n 0, 1), (75, .getfield 20, 3), (78, .bipush (-9), 2), (80, .invokevirtual 95, 3), (83, .aload_n 0, 1), (84, .getfield 14, 3), (87, .bipush 43, 2), (89, .invokevirtual 105, 3), (92, .ifCond .ne 5, 3), (95, .iconst 1, 1), (96, .ireturn, 1), (97, .aload_n 0, 1), (98, .getfield 14, 3), (101, .invokevirtual 55, 3), (104, .iinc 1 1, 3), (107, .goto (-105), 3), (110, .aload_n 0, 1), (111, .getfield 14, 3), (114, .invokevirtual 41, 3), (117, .ireturn, 1)]
theorem dt_X8_takesSum : ∀ q ∈ D_X8_takesSum, decode cX8_takesSum q.1 = .ok q.2 := by decide +kernel
theorem mv_X8_takesSum : ea_MV yX8_takesSum (F_X8_takesSum) 0 := ⟨⟨List.mem_append_right _ (List.mem_of_getElem? (i := 8) (by decide +kernel)), List.mem_append_right _ (List.mem_of_getElem? (i := 950) (by decide +kernel)), ⟨by decide, by decide⟩, by decide +kernel⟩, List.mem_append_right _ (List.mem_of_getElem? (i := 949) (by decide +kernel)), List.mem_append_left _ (List.mem_of_getElem? (i := 23) (by decide +kernel))⟩
def f_X8_takesSum_j83 (x10 : Int32) (m11 : ea_M) : Option ((Int32 × ea_M) ⊕ ((Int32 × ea_M) ⊕ (ea_M))) :=
  ea_cl (f_X9_seesSign 49 43 m11) fun r13 m12 =>
  if r13 = 0 then
  some (.inr (.inl (1, m12)))
  else
  ea_cl (f_X9_step 49 m12) fun r15 m14 =>
  some (.inl (x10 + 1, m14))
def f_X8_takesSum_j70 (x8 : Int32) (m9 : ea_M) : Option ((Int32 × ea_M) ⊕ ((Int32 × ea_M) ⊕ (ea_M))) :=
  if x8 ≤ 0 then
  f_X8_takesSum_j83 x8 m9
  else
  ea_cl (f_X7_put 38 (-9) m9) fun r17 m16 =>
  f_X8_takesSum_j83 x8 m16
def f_X8_takesSum_s2  (s2 : Int32 × ea_M) : Option ((Int32 × ea_M) ⊕ ((Int32 × ea_M) ⊕ (ea_M))) :=
  if 400 ≤ s2.1 then
  some (.inr (.inr s2.2))
  else
  ea_cl (f_X8_factSeen s2.2) fun r2 m1 =>
  if r2 = (-1) then
  ea_cl (f_X9_takesNumber 49 0 999 m1) fun r4 m3 =>
  if r4 = 0 then
  some (.inr (.inl (0, m3)))
  else
  ea_bd (m3 49 5) fun x5 =>
  ea_cl (f_X7_put 38 x5 m3) fun r7 m6 =>
  f_X8_takesSum_j70 s2.1 m6
  else
  ea_cl (f_X7_putFact 38 r2 m1) fun r19 m18 =>
  ea_cl (f_X9_step 49 m18) fun r21 m20 =>
  f_X8_takesSum_j70 s2.1 m20
def f_X8_takesSum (m : ea_M) : Option (Int32 × ea_M) :=
  ea_sl (ea_loop f_X8_takesSum_s2 ea_fuel (0, m)) (fun t => some t) (fun x2s =>
  ea_cl (f_X9_refuse 49 x2s) fun r23 m22 =>
  ea_gz r23 (some (r23, m22)))
set_option maxHeartbeats 300000 in
theorem jn_X8_takesSum_83 (G : ea_G) {res : ea_O}  (x10 : Int32) (m11 : ea_M)  {Φ : ((Int32 × ea_M) ⊕ ((Int32 × ea_M) ⊕ (ea_M))) → Prop} (hC : ∀ s2 : Int32 × ea_M, Φ (.inl s2) → ea_Ev G F_X8_takesSum res 2 [some (.ref 48), some (.int s2.1), none] [] s2.2 0 0) (hR : ∀ t : Int32 × ea_M, Φ (.inr (.inl t)) → res = (0, t)) (hX : ∀ x2s : ea_M, Φ (.inr (.inr x2s)) → ea_Ev G F_X8_takesSum res 110 [some (.ref 48), none, none] [] x2s 0 0) : ea_E G F_X8_takesSum res 83 [some (.ref 48), some (.int x10), none] [] m11 0 0 (f_X8_takesSum_j83 x10 m11) Φ := by
  unfold f_X8_takesSum_j83
  refine ev_aload_n (ea_at dt_X8_takesSum 40 rfl) rfl ?_
  refine ev_getR (ea_at dt_X8_takesSum 41 rfl) fl_X8_14 sh_48 rfl ?_
  refine ev_bipush (ea_at dt_X8_takesSum 42 rfl) bp_43 ?_
  refine ev_clI (F1 := F_X9_seesSign) (fun rY mY hY => ea_runV (As := [.int 43]) (ea_at dt_X8_takesSum 43 rfl) ml_X8_105 mv_X9_seesSign (ok_X9_seesSign G 49 43 m11 is_Reader_49 rY mY hY) sh_49 rfl rfl rfl (Nat.le_of_ble_eq_true rfl) rfl) rfl (fun r13 m12 => ?_)
  refine ev_if_ne (tgt := 97) (ea_at dt_X8_takesSum 44 rfl) rfl (fun _ => ?_) (fun _ => ?_)
  · refine ev_iconst (ea_at dt_X8_takesSum 45 rfl) ic_1 ?_
    exact ev_zret (by decide) (ea_at dt_X8_takesSum 46 rfl) rfl ⟨by decide, by decide⟩ (fun h => hR _ h)
  · refine ev_aload_n (ea_at dt_X8_takesSum 47 rfl) rfl ?_
    refine ev_getR (ea_at dt_X8_takesSum 48 rfl) fl_X8_14 sh_48 rfl ?_
    refine ev_clU (F1 := F_X9_step) (fun rY mY hY => ea_runV (As := []) (ea_at dt_X8_takesSum 49 rfl) ml_X8_55 mv_X9_step (ok_X9_step G 49 m12 is_Reader_49 rY mY hY) sh_49 rfl rfl rfl (Nat.le_of_ble_eq_true rfl) rfl) rfl (fun r15 m14 => ?_)
    refine ev_iinc (ls' := [some (.ref 48), some (.int (x10 + 1)), none]) (ea_at dt_X8_takesSum 50 rfl) rfl (congrArg (fun z => _ + z) ic_1) (ea_lt rfl) rfl ?_
    refine ev_goto (tgt := 2) (ea_at dt_X8_takesSum 51 rfl) rfl ?_
    exact ev_leaf (fun h => ea_drop (l' := [some (.ref 48), some (.int (x10 + 1)), none]) ⟨Or.inr rfl, Or.inr rfl, Or.inl rfl, trivial⟩ (hC (x10 + 1, m14) h))
set_option maxHeartbeats 300000 in
theorem jn_X8_takesSum_70 (G : ea_G) {res : ea_O}  (x8 : Int32) (m9 : ea_M)  {Φ : ((Int32 × ea_M) ⊕ ((Int32 × ea_M) ⊕ (ea_M))) → Prop} (hC : ∀ s2 : Int32 × ea_M, Φ (.inl s2) → ea_Ev G F_X8_takesSum res 2 [some (.ref 48), some (.int s2.1), none] [] s2.2 0 0) (hR : ∀ t : Int32 × ea_M, Φ (.inr (.inl t)) → res = (0, t)) (hX : ∀ x2s : ea_M, Φ (.inr (.inr x2s)) → ea_Ev G F_X8_takesSum res 110 [some (.ref 48), none, none] [] x2s 0 0) : ea_E G F_X8_takesSum res 70 [some (.ref 48), some (.int x8), none] [] m9 0 0 (f_X8_takesSum_j70 x8 m9) Φ := by
  unfold f_X8_takesSum_j70
  refine ev_iload_n (ea_at dt_X8_takesSum 34 rfl) rfl ?_
  refine ev_if_le (tgt := 83) (ea_at dt_X8_takesSum 35 rfl) rfl (fun _ => ?_) (fun _ => ?_)
  · exact ev_drop (l' := [some (.ref 48), some (.int x8), none]) ⟨Or.inr rfl, Or.inr rfl, Or.inl rfl, trivial⟩ (jn_X8_takesSum_83 G x8 m9  hC hR hX)
  · refine ev_aload_n (ea_at dt_X8_takesSum 36 rfl) rfl ?_
    refine ev_getR (ea_at dt_X8_takesSum 37 rfl) fl_X8_20 sh_48 rfl ?_
    refine ev_bipush (ea_at dt_X8_takesSum 38 rfl) bp_m9 ?_
    refine ev_clU (F1 := F_X7_put) (fun rY mY hY => ea_runV (As := [.int (-9)]) (ea_at dt_X8_takesSum 39 rfl) ml_X8_95 mv_X7_put (ok_X7_put G 38 (-9) m9 is_Law_38 rY mY hY) sh_38 rfl rfl rfl (Nat.le_of_ble_eq_true rfl) rfl) rfl (fun r17 m16 => ?_)
    exact ev_drop (l' := [some (.ref 48), some (.int x8), none]) ⟨Or.inr rfl, Or.inr rfl, Or.inl rfl, trivial⟩ (jn_X8_takesSum_83 G x8 m16  hC hR hX)
set_option maxHeartbeats 300000 in
theorem lp_X8_takesSum_2 (G : ea_G) {res : ea_O}    {Ψ : ((Int32 × ea_M) ⊕ (ea_M)) → Prop} (hR : ∀ t : Int32 × ea_M, Ψ (.inl t) → res = (0, t)) (hX : ∀ x2s : ea_M, Ψ (.inr x2s) → ea_Ev G F_X8_takesSum res 110 [some (.ref 48), none, none] [] x2s 0 0) : ∀ (f : Nat) (s2 : Int32 × ea_M), ea_E G F_X8_takesSum res 2 [some (.ref 48), some (.int s2.1), none] [] s2.2 0 0 (ea_loop f_X8_takesSum_s2 f s2) Ψ := by
  refine ev_loop (G := G) (F := F_X8_takesSum) (res := res) (pc := 2) (st := []) (k := 0) (n := 0) (step := f_X8_takesSum_s2) (Ψ := Ψ) (fun (s2 : Int32 × ea_M) => [some (.ref 48), some (.int s2.1), none]) (fun (s2 : Int32 × ea_M) => s2.2) (fun s2 => ?_)
  have hC : ∀ s2 : Int32 × ea_M, (Sum.elim (fun s2 : Int32 × ea_M => ea_Ev G F_X8_takesSum res 2 [some (.ref 48), some (.int s2.1), none] [] s2.2 0 0) Ψ) (.inl s2) → ea_Ev G F_X8_takesSum res 2 [some (.ref 48), some (.int s2.1), none] [] s2.2 0 0 := fun _ h => h
  have hR : ∀ t : Int32 × ea_M, (Sum.elim (fun s2 : Int32 × ea_M => ea_Ev G F_X8_takesSum res 2 [some (.ref 48), some (.int s2.1), none] [] s2.2 0 0) Ψ) (.inr (.inl t)) → res = (0, t) := hR
  have hX : ∀ x2s : ea_M, (Sum.elim (fun s2 : Int32 × ea_M => ea_Ev G F_X8_takesSum res 2 [some (.ref 48), some (.int s2.1), none] [] s2.2 0 0) Ψ) (.inr (.inr x2s)) → ea_Ev G F_X8_takesSum res 110 [some (.ref 48), none, none] [] x2s 0 0 := hX
  unfold f_X8_takesSum_s2
  refine ev_iload_n (ea_at dt_X8_takesSum 2 rfl) rfl ?_
  refine ev_sipush (ea_at dt_X8_takesSum 3 rfl) sp_400 ?_
  refine ev_icmp_ge (tgt := 110) (ea_at dt_X8_takesSum 4 rfl) rfl (fun _ => ?_) (fun _ => ?_)
  · exact ev_leaf (fun h => ea_drop (l' := [some (.ref 48), none, none]) ⟨Or.inr rfl, Or.inl rfl, Or.inl rfl, trivial⟩ (hX s2.2 h))
  · refine ev_aload_n (ea_at dt_X8_takesSum 5 rfl) rfl ?_
    refine ev_clI (F1 := F_X8_factSeen) (fun rY mY hY => ea_runV (As := []) (ea_at dt_X8_takesSum 6 rfl) ml_X8_121 mv_X8_factSeen (ok_X8_factSeen G s2.2  rY mY hY) sh_48 rfl rfl rfl (Nat.le_of_ble_eq_true rfl) rfl) rfl (fun r2 m1 => ?_)
    refine ev_istore_n (ls' := [some (.ref 48), some (.int s2.1), some (.int r2)]) (ea_at dt_X8_takesSum 7 rfl) (ea_lt rfl) rfl ?_
    refine ev_iload_n (ea_at dt_X8_takesSum 8 rfl) rfl ?_
    refine ev_iconst (ea_at dt_X8_takesSum 9 rfl) ic_m1 ?_
    refine ev_icmp_eq (tgt := 37) (ea_at dt_X8_takesSum 10 rfl) rfl (fun _ => ?_) (fun _ => ?_)
    · refine ev_aload_n (ea_at dt_X8_takesSum 19 rfl) rfl ?_
      refine ev_getR (ea_at dt_X8_takesSum 20 rfl) fl_X8_14 sh_48 rfl ?_
      refine ev_iconst (ea_at dt_X8_takesSum 21 rfl) ic_0 ?_
      refine ev_sipush (ea_at dt_X8_takesSum 22 rfl) sp_999 ?_
      refine ev_clI (F1 := F_X9_takesNumber) (fun rY mY hY => ea_runV (As := [.int 0, .int 999]) (ea_at dt_X8_takesSum 23 rfl) ml_X8_58 mv_X9_takesNumber (ok_X9_takesNumber G 49 0 999 m1 is_Reader_49 rY mY hY) sh_49 rfl rfl rfl (Nat.le_of_ble_eq_true rfl) rfl) rfl (fun r4 m3 => ?_)
      refine ev_if_eq (tgt := 68) (ea_at dt_X8_takesSum 24 rfl) rfl (fun _ => ?_) (fun _ => ?_)
      · refine ev_iconst (ea_at dt_X8_takesSum 32 rfl) ic_0 ?_
        exact ev_zret (by decide) (ea_at dt_X8_takesSum 33 rfl) rfl ⟨by decide, by decide⟩ (fun h => hR _ h)
      · refine ev_aload_n (ea_at dt_X8_takesSum 25 rfl) rfl ?_
        refine ev_getR (ea_at dt_X8_takesSum 26 rfl) fl_X8_20 sh_48 rfl ?_
        refine ev_aload_n (ea_at dt_X8_takesSum 27 rfl) rfl ?_
        refine ev_getR (ea_at dt_X8_takesSum 28 rfl) fl_X8_14 sh_48 rfl ?_
        refine ev_getI (ea_at dt_X8_takesSum 29 rfl) fl_X8_62 sh_49 rfl ?_
        refine ev_i (fun x5 => ?_)
        refine ev_clU (F1 := F_X7_put) (fun rY mY hY => ea_runV (As := [.int x5]) (ea_at dt_X8_takesSum 30 rfl) ml_X8_95 mv_X7_put (ok_X7_put G 38 x5 m3 is_Law_38 rY mY hY) sh_38 rfl rfl rfl (Nat.le_of_ble_eq_true rfl) rfl) rfl (fun r7 m6 => ?_)
        refine ev_goto (tgt := 70) (ea_at dt_X8_takesSum 31 rfl) rfl ?_
        exact ev_drop (l' := [some (.ref 48), some (.int s2.1), none]) ⟨Or.inr rfl, Or.inr rfl, Or.inl rfl, trivial⟩ (jn_X8_takesSum_70 G s2.1 m6  hC hR hX)
    · refine ev_aload_n (ea_at dt_X8_takesSum 11 rfl) rfl ?_
      refine ev_getR (ea_at dt_X8_takesSum 12 rfl) fl_X8_20 sh_48 rfl ?_
      refine ev_iload_n (ea_at dt_X8_takesSum 13 rfl) rfl ?_
      refine ev_clU (F1 := F_X7_putFact) (fun rY mY hY => ea_runV (As := [.int r2]) (ea_at dt_X8_takesSum 14 rfl) ml_X8_115 mv_X7_putFact (ok_X7_putFact G 38 r2 m1 is_Law_38 rY mY hY) sh_38 rfl rfl rfl (Nat.le_of_ble_eq_true rfl) rfl) rfl (fun r19 m18 => ?_)
      refine ev_aload_n (ea_at dt_X8_takesSum 15 rfl) rfl ?_
      refine ev_getR (ea_at dt_X8_takesSum 16 rfl) fl_X8_14 sh_48 rfl ?_
      refine ev_clU (F1 := F_X9_step) (fun rY mY hY => ea_runV (As := []) (ea_at dt_X8_takesSum 17 rfl) ml_X8_55 mv_X9_step (ok_X9_step G 49 m18 is_Reader_49 rY mY hY) sh_49 rfl rfl rfl (Nat.le_of_ble_eq_true rfl) rfl) rfl (fun r21 m20 => ?_)
      refine ev_goto (tgt := 70) (ea_at dt_X8_takesSum 18 rfl) rfl ?_
      exact ev_drop (l' := [some (.ref 48), some (.int s2.1), none]) ⟨Or.inr rfl, Or.inr rfl, Or.inl rfl, trivial⟩ (jn_X8_takesSum_70 G s2.1 m20  hC hR hX)
set_option maxHeartbeats 300000 in
theorem ok_X8_takesSum (G : ea_G) (m : ea_M)  (rZ : Int32) (mZ : ea_M) (hZ : f_X8_takesSum m = some (rZ, mZ)) : ea_Met G yX8_takesSum F_X8_takesSum [.ref 48] m (0, rZ, mZ) := by
  refine ea_met (F := F_X8_takesSum) (by decide +kernel) rfl rfl (Nat.le_of_ble_eq_true rfl) (by simp only [List.mem_cons, List.not_mem_nil, or_false]; intro v hv; rcases hv with rfl <;> rfl) ((?_ : ea_E G F_X8_takesSum (0, rZ, mZ) 0 [some (.ref 48), none, none] [] m 0 0 (f_X8_takesSum m) (fun t => t = (rZ, mZ))) (rZ, mZ) hZ rfl)
  have hR : ∀ t : Int32 × ea_M, t = (rZ, mZ) → ((0, rZ, mZ) : ea_O) = (0, t) := fun t h => by rw [h]
  unfold f_X8_takesSum
  refine ev_iconst (ea_at dt_X8_takesSum 0 rfl) ic_0 ?_
  refine ev_istore_n (ls' := [some (.ref 48), some (.int 0), none]) (ea_at dt_X8_takesSum 1 rfl) (ea_lt rfl) rfl ?_
  refine ev_drop (l' := [some (.ref 48), some (.int 0), none]) ⟨Or.inr rfl, Or.inr rfl, Or.inl rfl, trivial⟩ ?_
  refine ev_sl (lp_X8_takesSum_2 G  (fun t h => by obtain ⟨t1, e1, q1⟩ := h; cases e1; exact hR t q1) (fun x2s h => ?_) ea_fuel (0, m))
  obtain ⟨t1, e1, q1⟩ := h
  refine (?_ : ea_E G F_X8_takesSum (0, rZ, mZ) 110 [some (.ref 48), none, none] [] x2s 0 0 _ (fun t => t = (rZ, mZ))) t1 e1 q1
  refine ev_aload_n (ea_at dt_X8_takesSum 52 rfl) rfl ?_
  refine ev_getR (ea_at dt_X8_takesSum 53 rfl) fl_X8_14 sh_48 rfl ?_
  refine ev_clI (F1 := F_X9_refuse) (fun rY mY hY => ea_runV (As := []) (ea_at dt_X8_takesSum 54 rfl) ml_X8_41 mv_X9_refuse (ok_X9_refuse G 49 x2s is_Reader_49 rY mY hY) sh_49 rfl rfl rfl (Nat.le_of_ble_eq_true rfl) rfl) rfl (fun r23 m22 => ?_)
  exact ev_zretG (ea_at dt_X8_takesSum 55 rfl) rfl ⟨by decide, by decide⟩ (fun h => hR _ h)
