def F_X12_emits : ea_F := (ea_rm 8 0 0, cX12_emits, RX12, none, 3, [], 0, 0)
def D_X12_emits : List (Nat × Instr × Nat) := [(0, .aload_n 0, 1), (1, .getfield 13, 3), (4, .sipush 1380, 3), (7, .iconst 2, 1), (8, .aload_n 0, 1), (9, .getfield 191, 3), (12, .imul, 1), (13, .iadd, 1), (14, .iload_n 1, 1), (15, .iastore, 1), (16, .aload_n 0, 1), (17, .getfield 13, 3), (20, .sipush 1380, 3), (23, .iconst 2, 1), (24, .aload_n 0, 1), (25, .getfield 191, 3), (28, .imul, 1), (29, .iadd, 1), (30, .iconst 1, 1), (31, .iadd, 1), (32, .iload_n 2, 1), (33, .iastore, 1), (34, .aload_n 0, 1), (35, .dup, 1), (36, .getfield 191, 3), (39, .iconst 1, 1), (40, .iadd, 1), (41, .putfield 191, 3), (44, .return_, 1)]
theorem dt_X12_emits : ∀ q ∈ D_X12_emits, decode cX12_emits q.1 = .ok q.2 := by decide +kernel
theorem mv_X12_emits : ea_MV yX12_emits (F_X12_emits) 2 := ⟨⟨List.mem_append_right _ (List.mem_of_getElem? (i := 13) (by decide +kernel)), List.mem_append_right _ (List.mem_of_getElem? (i := 1670) (by decide +kernel)), ⟨by decide, by decide⟩, by decide +kernel⟩, List.mem_append_right _ (List.mem_of_getElem? (i := 1669) (by decide +kernel)), List.mem_append_left _ (List.mem_of_getElem? (i := 69) (by decide +kernel))⟩
def f_X12_emits (p1 : Int32) (p2 : Int32) (m : ea_M) : Option (Int32 × ea_M) :=
  ea_bd (m 272 16) fun x1 =>
  ea_bd (1380 + (2 * x1)) fun x2 =>
  ea_g x2 2180 (ea_bd (ea_st m 273 (Int32.toNatClampNeg x2) p1) fun m3 =>
  ea_bd (m3 272 16) fun x4 =>
  ea_bd (1380 + (2 * x4)) fun x5 =>
  ea_g (x5 + 1) 2180 (ea_bd (ea_st m3 273 (Int32.toNatClampNeg (x5 + 1)) p2) fun m6 =>
  ea_bd (m6 272 16) fun x7 =>
  ea_bd (ea_st m6 272 16 (x7 + 1)) fun m8 =>
  some (0, m8)))
set_option maxHeartbeats 300000 in
theorem ok_X12_emits (G : ea_G) (p1 : Int32) (p2 : Int32) (m : ea_M)  (rZ : Int32) (mZ : ea_M) (hZ : f_X12_emits p1 p2 m = some (rZ, mZ)) : ea_Met G yX12_emits F_X12_emits [.ref 272, .int p1, .int p2] m (0, rZ, mZ) := by
  refine ea_met (F := F_X12_emits) (by decide +kernel) rfl rfl (Nat.le_of_ble_eq_true rfl) (by simp only [List.mem_cons, List.not_mem_nil, or_false]; intro v hv; rcases hv with rfl | rfl | rfl <;> rfl) ((?_ : ea_E G F_X12_emits (0, rZ, mZ) 0 [some (.ref 272), some (.int p1), some (.int p2)] [] m 0 0 (f_X12_emits p1 p2 m) (fun t => t = (rZ, mZ))) (rZ, mZ) hZ rfl)
  have hR : ∀ t : Int32 × ea_M, t = (rZ, mZ) → ((0, rZ, mZ) : ea_O) = (0, t) := fun t h => by rw [h]
  unfold f_X12_emits
  refine ev_aload_n (ea_at dt_X12_emits 0 rfl) rfl ?_
  refine ev_getR (ea_at dt_X12_emits 1 rfl) fl_X12_13 sh_272 rfl ?_
  refine ev_sipush (ea_at dt_X12_emits 2 rfl) sp_1380 ?_
  refine ev_iconst (ea_at dt_X12_emits 3 rfl) ic_2 ?_
  refine ev_aload_n (ea_at dt_X12_emits 4 rfl) rfl ?_
  refine ev_getI (ea_at dt_X12_emits 5 rfl) fl_X12_191 sh_272 rfl ?_
  refine ev_i (fun x1 => ?_)
  refine ev_imul (ea_at dt_X12_emits 6 rfl) ?_
  refine ev_iadd (ea_at dt_X12_emits 7 rfl) ?_
  refine ev_i (fun x2 => ?_)
  refine ev_iload_n (ea_at dt_X12_emits 8 rfl) rfl ?_
  refine ev_iastore (ea_at dt_X12_emits 9 rfl) sh_273 (by decide) ?_
  refine ev_m (fun m3 => ?_)
  refine ev_aload_n (ea_at dt_X12_emits 10 rfl) rfl ?_
  refine ev_getR (ea_at dt_X12_emits 11 rfl) fl_X12_13 sh_272 rfl ?_
  refine ev_sipush (ea_at dt_X12_emits 12 rfl) sp_1380 ?_
  refine ev_iconst (ea_at dt_X12_emits 13 rfl) ic_2 ?_
  refine ev_aload_n (ea_at dt_X12_emits 14 rfl) rfl ?_
  refine ev_getI (ea_at dt_X12_emits 15 rfl) fl_X12_191 sh_272 rfl ?_
  refine ev_i (fun x4 => ?_)
  refine ev_imul (ea_at dt_X12_emits 16 rfl) ?_
  refine ev_iadd (ea_at dt_X12_emits 17 rfl) ?_
  refine ev_i (fun x5 => ?_)
  refine ev_iconst (ea_at dt_X12_emits 18 rfl) ic_1 ?_
  refine ev_iadd (ea_at dt_X12_emits 19 rfl) ?_
  refine ev_iload_n (ea_at dt_X12_emits 20 rfl) rfl ?_
  refine ev_iastore (ea_at dt_X12_emits 21 rfl) sh_273 (by decide) ?_
  refine ev_m (fun m6 => ?_)
  refine ev_aload_n (ea_at dt_X12_emits 22 rfl) rfl ?_
  refine ev_dup (ea_at dt_X12_emits 23 rfl) rfl ?_
  refine ev_getI (ea_at dt_X12_emits 24 rfl) fl_X12_191 sh_272 rfl ?_
  refine ev_i (fun x7 => ?_)
  refine ev_iconst (ea_at dt_X12_emits 25 rfl) ic_1 ?_
  refine ev_iadd (ea_at dt_X12_emits 26 rfl) ?_
  refine ev_putI (ea_at dt_X12_emits 27 rfl) fl_X12_191 fp_12_16 sh_272 rfl ?_
  refine ev_m (fun m8 => ?_)
  exact ev_vret (ea_at dt_X12_emits 28 rfl) rfl ⟨by decide, by decide⟩ (fun h => ⟨0, hR _ h⟩)
def F_X12_readPart : ea_F := (ea_rm 14 0 0, cX12_readPart, RX12, some .boolean, 2, [], 0, 0)
def D_X12_readPart : List (Nat × Instr × Nat) := [(0, .aload_n 0, 1), (1, .invokevirtual 117, 3), (4, .aload_n 0, 1), (5, .getfield 92, 3), (8, .aload_n 0, 1), (9, .getfield 102, 3), (12, .if_icmp .ne 22, 3), (15, .aload_n 0, 1), (16, .iconst 0, 1), (17, .sipush 999, 3), (20, .invokevirtual 124, 3), (23, .istore_n 1, 1), (24, .aload_n 0, 1), (25, .bipush 8, 2), (27, .iload_n 1, 1), (28, .invokevirtual 194, 3), (31, .goto 89, 3), (34, .aload_n 0, 1), (35, .ldc 156, 2), (37, .invokevirtual 120, 3), (40, .ifCond .eq 7, 3), (43, .iconst 0, 1), (44, .goto 69, 3), (47, .aload_n 0, 1), (48, .ldc 198, 2), (50, .invokevirtual 120, 3), (53, .ifCond .eq 7, 3), (56, .iconst 1, 1), (57, .goto 56, 3), (60, .aload_n 0, 1), (61, .ldc 200, 2), (63, .invokevirtual 120, 3), (66, .ifCond .eq 7, 3), (69, .iconst 2, 1), (70, .goto 43, 3), (73, .aload_n 0, 1), (74, .ldc 132, 2), (76, .invokevirtual 120, 3), (79, .ifCond .eq 7, 3), (82, .iconst 3, 1), (83, .goto 30, 3), (86, .aload_n 0, 1), (87, .ldc 186, 2), (89, .invokevirtual 120, 3), (92, .ifCond .eq 7, 3), (95, .iconst 4, 1), (96, .goto 17, 3), (99, .aload_n 0, 1), (100, .ldc 202, 2), (102, .invokevirtual 120, 3), (105, .ifCond .eq 7, 3), (108, .iconst 5, 1), (109, .goto 4, 3), (112, .iconst (-1), 1), (113, .istore_n 1, 1), (114, .aload_n 0, 1), (115, .iload_n 1, 1), (116, .iconst 0, 1), (117, .invokevirtual 194, 3), (120, .iload_n 1, 1), (121, .ifCond .lt 7, 3), (124, .iconst 1, 1), (125, .goto 4, 3), (128, .iconst 0, 1), (129, .ireturn, 1)]
theorem dt_X12_readPart : ∀ q ∈ D_X12_readPart, decode cX12_readPart q.1 = .ok q.2 := by decide +kernel
theorem mv_X12_readPart : ea_MV yX12_readPart (F_X12_readPart) 0 := ⟨⟨List.mem_append_right _ (List.mem_of_getElem? (i := 13) (by decide +kernel)), List.mem_append_right _ (List.mem_of_getElem? (i := 1684) (by decide +kernel)), ⟨by decide, by decide⟩, by decide +kernel⟩, List.mem_append_right _ (List.mem_of_getElem? (i := 1683) (by decide +kernel)), List.mem_append_left _ (List.mem_of_getElem? (i := 72) (by decide +kernel))⟩
def f_X12_readPart_j120 (x9 : Int32) (m10 : ea_M) : Option (Int32 × ea_M) :=
  if x9 < 0 then
  some (0, m10)
  else
  some (1, m10)
def f_X12_readPart_j113 (x23 : Int32) (m24 : ea_M) : Option (Int32 × ea_M) :=
  ea_cl (f_X12_emits x23 0 m24) fun r26 m25 =>
  f_X12_readPart_j120 x23 m25
def f_X12_readPart (m : ea_M) : Option (Int32 × ea_M) :=
  ea_cl (f_X12_letters m) fun r2 m1 =>
  ea_bd (m1 272 10) fun x3 =>
  ea_bd (m1 272 12) fun x4 =>
  if x3 = x4 then
  ea_cl (f_X12_number 0 999 m1) fun r6 m5 =>
  ea_cl (f_X12_emits 8 r6 m5) fun r8 m7 =>
  f_X12_readPart_j120 r6 m7
  else
  ea_cl (f_X12_isWord 46 m1) fun r12 m11 =>
  if r12 = 0 then
  ea_cl (f_X12_isWord 68 m11) fun r14 m13 =>
  if r14 = 0 then
  ea_cl (f_X12_isWord 69 m13) fun r16 m15 =>
  if r16 = 0 then
  ea_cl (f_X12_isWord 48 m15) fun r18 m17 =>
  if r18 = 0 then
  ea_cl (f_X12_isWord 61 m17) fun r20 m19 =>
  if r20 = 0 then
  ea_cl (f_X12_isWord 70 m19) fun r22 m21 =>
  if r22 = 0 then
  f_X12_readPart_j113 (-1) m21
  else
  f_X12_readPart_j113 5 m21
  else
  f_X12_readPart_j113 4 m19
  else
  f_X12_readPart_j113 3 m17
  else
  f_X12_readPart_j113 2 m15
  else
  f_X12_readPart_j113 1 m13
  else
  f_X12_readPart_j113 0 m11
set_option maxHeartbeats 300000 in
theorem jn_X12_readPart_120 (G : ea_G) {res : ea_O}  (x9 : Int32) (m10 : ea_M)  {Φ : (Int32 × ea_M) → Prop} (hR : ∀ t : Int32 × ea_M, Φ t → res = (0, t)) : ea_E G F_X12_readPart res 120 [none, some (.int x9)] [] m10 0 0 (f_X12_readPart_j120 x9 m10) Φ := by
  unfold f_X12_readPart_j120
  refine ev_iload_n (ea_at dt_X12_readPart 59 rfl) rfl ?_
  refine ev_if_lt (tgt := 128) (ea_at dt_X12_readPart 60 rfl) rfl (fun _ => ?_) (fun _ => ?_)
  · refine ev_iconst (ea_at dt_X12_readPart 63 rfl) ic_0 ?_
    exact ev_zret (by decide) (ea_at dt_X12_readPart 64 rfl) rfl ⟨by decide, by decide⟩ (fun h => hR _ h)
  · refine ev_iconst (ea_at dt_X12_readPart 61 rfl) ic_1 ?_
    refine ev_goto (tgt := 129) (ea_at dt_X12_readPart 62 rfl) rfl ?_
    exact ev_zret (by decide) (ea_at dt_X12_readPart 64 rfl) rfl ⟨by decide, by decide⟩ (fun h => hR _ h)
set_option maxHeartbeats 300000 in
theorem jn_X12_readPart_113 (G : ea_G) {res : ea_O}  (x23 : Int32) (m24 : ea_M)  {Φ : (Int32 × ea_M) → Prop} (hR : ∀ t : Int32 × ea_M, Φ t → res = (0, t)) : ea_E G F_X12_readPart res 113 [some (.ref 272), none] [.int x23] m24 0 0 (f_X12_readPart_j113 x23 m24) Φ := by
  unfold f_X12_readPart_j113
  refine ev_istore_n (ls' := [some (.ref 272), some (.int x23)]) (ea_at dt_X12_readPart 54 rfl) (ea_lt rfl) rfl ?_
  refine ev_aload_n (ea_at dt_X12_readPart 55 rfl) rfl ?_
  refine ev_iload_n (ea_at dt_X12_readPart 56 rfl) rfl ?_
  refine ev_iconst (ea_at dt_X12_readPart 57 rfl) ic_0 ?_
  refine ev_clU (F1 := F_X12_emits) (fun rY mY hY => ea_runV (As := [.int x23, .int 0]) (ea_at dt_X12_readPart 58 rfl) ml_X12_194 mv_X12_emits (ok_X12_emits G x23 0 m24  rY mY hY) sh_272 rfl rfl rfl (Nat.le_of_ble_eq_true rfl) rfl) rfl (fun r26 m25 => ?_)
  exact ev_drop (l' := [none, some (.int x23)]) ⟨Or.inl rfl, Or.inr rfl, trivial⟩ (jn_X12_readPart_120 G x23 m25  hR)
set_option maxHeartbeats 300000 in
theorem ok_X12_readPart (G : ea_G) (m : ea_M)  (rZ : Int32) (mZ : ea_M) (hZ : f_X12_readPart m = some (rZ, mZ)) : ea_Met G yX12_readPart F_X12_readPart [.ref 272] m (0, rZ, mZ) := by
  refine ea_met (F := F_X12_readPart) (by decide +kernel) rfl rfl (Nat.le_of_ble_eq_true rfl) (by simp only [List.mem_cons, List.not_mem_nil, or_false]; intro v hv; rcases hv with rfl <;> rfl) ((?_ : ea_E G F_X12_readPart (0, rZ, mZ) 0 [some (.ref 272), none] [] m 0 0 (f_X12_readPart m) (fun t => t = (rZ, mZ))) (rZ, mZ) hZ rfl)
  have hR : ∀ t : Int32 × ea_M, t = (rZ, mZ) → ((0, rZ, mZ) : ea_O) = (0, t) := fun t h => by rw [h]
  unfold f_X12_readPart
  refine ev_aload_n (ea_at dt_X12_readPart 0 rfl) rfl ?_
  refine ev_clU (F1 := F_X12_letters) (fun rY mY hY => ea_runV (As := []) (ea_at dt_X12_readPart 1 rfl) ml_X12_117 mv_X12_letters (ok_X12_letters G m  rY mY hY) sh_272 rfl rfl rfl (Nat.le_of_ble_eq_true rfl) rfl) rfl (fun r2 m1 => ?_)
  refine ev_aload_n (ea_at dt_X12_readPart 2 rfl) rfl ?_
  refine ev_getI (ea_at dt_X12_readPart 3 rfl) fl_X12_92 sh_272 rfl ?_
  refine ev_i (fun x3 => ?_)
  refine ev_aload_n (ea_at dt_X12_readPart 4 rfl) rfl ?_
  refine ev_getI (ea_at dt_X12_readPart 5 rfl) fl_X12_102 sh_272 rfl ?_
  refine ev_i (fun x4 => ?_)
  refine ev_icmp_ne (tgt := 34) (ea_at dt_X12_readPart 6 rfl) rfl (fun _ => ?_) (fun _ => ?_)
  · refine ev_aload_n (ea_at dt_X12_readPart 7 rfl) rfl ?_
    refine ev_iconst (ea_at dt_X12_readPart 8 rfl) ic_0 ?_
    refine ev_sipush (ea_at dt_X12_readPart 9 rfl) sp_999 ?_
    refine ev_clI (F1 := F_X12_number) (fun rY mY hY => ea_runV (As := [.int 0, .int 999]) (ea_at dt_X12_readPart 10 rfl) ml_X12_124 mv_X12_number (ok_X12_number G 0 999 m1  rY mY hY) sh_272 rfl rfl rfl (Nat.le_of_ble_eq_true rfl) rfl) rfl (fun r6 m5 => ?_)
    refine ev_istore_n (ls' := [some (.ref 272), some (.int r6)]) (ea_at dt_X12_readPart 11 rfl) (ea_lt rfl) rfl ?_
    refine ev_aload_n (ea_at dt_X12_readPart 12 rfl) rfl ?_
    refine ev_bipush (ea_at dt_X12_readPart 13 rfl) bp_8 ?_
    refine ev_iload_n (ea_at dt_X12_readPart 14 rfl) rfl ?_
    refine ev_clU (F1 := F_X12_emits) (fun rY mY hY => ea_runV (As := [.int 8, .int r6]) (ea_at dt_X12_readPart 15 rfl) ml_X12_194 mv_X12_emits (ok_X12_emits G 8 r6 m5  rY mY hY) sh_272 rfl rfl rfl (Nat.le_of_ble_eq_true rfl) rfl) rfl (fun r8 m7 => ?_)
    refine ev_goto (tgt := 120) (ea_at dt_X12_readPart 16 rfl) rfl ?_
    exact ev_drop (l' := [none, some (.int r6)]) ⟨Or.inl rfl, Or.inr rfl, trivial⟩ (jn_X12_readPart_120 G r6 m7  hR)
  · refine ev_aload_n (ea_at dt_X12_readPart 17 rfl) rfl ?_
    refine ev_ldcS (j := 46) (ea_at dt_X12_readPart 18 rfl) rfl ?_
    refine ev_clI (F1 := F_X12_isWord) (fun rY mY hY => ea_runV (As := [.ref (1000 + 46)]) (ea_at dt_X12_readPart 19 rfl) ml_X12_120 mv_X12_isWord (ok_X12_isWord G 46 m1 (by decide) rY mY hY) sh_272 rfl rfl rfl (Nat.le_of_ble_eq_true rfl) rfl) rfl (fun r12 m11 => ?_)
    refine ev_if_eq (tgt := 47) (ea_at dt_X12_readPart 20 rfl) rfl (fun _ => ?_) (fun _ => ?_)
    · refine ev_aload_n (ea_at dt_X12_readPart 23 rfl) rfl ?_
      refine ev_ldcS (j := 68) (ea_at dt_X12_readPart 24 rfl) rfl ?_
      refine ev_clI (F1 := F_X12_isWord) (fun rY mY hY => ea_runV (As := [.ref (1000 + 68)]) (ea_at dt_X12_readPart 25 rfl) ml_X12_120 mv_X12_isWord (ok_X12_isWord G 68 m11 (by decide) rY mY hY) sh_272 rfl rfl rfl (Nat.le_of_ble_eq_true rfl) rfl) rfl (fun r14 m13 => ?_)
      refine ev_if_eq (tgt := 60) (ea_at dt_X12_readPart 26 rfl) rfl (fun _ => ?_) (fun _ => ?_)
      · refine ev_aload_n (ea_at dt_X12_readPart 29 rfl) rfl ?_
        refine ev_ldcS (j := 69) (ea_at dt_X12_readPart 30 rfl) rfl ?_
        refine ev_clI (F1 := F_X12_isWord) (fun rY mY hY => ea_runV (As := [.ref (1000 + 69)]) (ea_at dt_X12_readPart 31 rfl) ml_X12_120 mv_X12_isWord (ok_X12_isWord G 69 m13 (by decide) rY mY hY) sh_272 rfl rfl rfl (Nat.le_of_ble_eq_true rfl) rfl) rfl (fun r16 m15 => ?_)
        refine ev_if_eq (tgt := 73) (ea_at dt_X12_readPart 32 rfl) rfl (fun _ => ?_) (fun _ => ?_)
        · refine ev_aload_n (ea_at dt_X12_readPart 35 rfl) rfl ?_
          refine ev_ldcS (j := 48) (ea_at dt_X12_readPart 36 rfl) rfl ?_
          refine ev_clI (F1 := F_X12_isWord) (fun rY mY hY => ea_runV (As := [.ref (1000 + 48)]) (ea_at dt_X12_readPart 37 rfl) ml_X12_120 mv_X12_isWord (ok_X12_isWord G 48 m15 (by decide) rY mY hY) sh_272 rfl rfl rfl (Nat.le_of_ble_eq_true rfl) rfl) rfl (fun r18 m17 => ?_)
          refine ev_if_eq (tgt := 86) (ea_at dt_X12_readPart 38 rfl) rfl (fun _ => ?_) (fun _ => ?_)
          · refine ev_aload_n (ea_at dt_X12_readPart 41 rfl) rfl ?_
            refine ev_ldcS (j := 61) (ea_at dt_X12_readPart 42 rfl) rfl ?_
            refine ev_clI (F1 := F_X12_isWord) (fun rY mY hY => ea_runV (As := [.ref (1000 + 61)]) (ea_at dt_X12_readPart 43 rfl) ml_X12_120 mv_X12_isWord (ok_X12_isWord G 61 m17 (by decide) rY mY hY) sh_272 rfl rfl rfl (Nat.le_of_ble_eq_true rfl) rfl) rfl (fun r20 m19 => ?_)
            refine ev_if_eq (tgt := 99) (ea_at dt_X12_readPart 44 rfl) rfl (fun _ => ?_) (fun _ => ?_)
            · refine ev_aload_n (ea_at dt_X12_readPart 47 rfl) rfl ?_
              refine ev_ldcS (j := 70) (ea_at dt_X12_readPart 48 rfl) rfl ?_
              refine ev_clI (F1 := F_X12_isWord) (fun rY mY hY => ea_runV (As := [.ref (1000 + 70)]) (ea_at dt_X12_readPart 49 rfl) ml_X12_120 mv_X12_isWord (ok_X12_isWord G 70 m19 (by decide) rY mY hY) sh_272 rfl rfl rfl (Nat.le_of_ble_eq_true rfl) rfl) rfl (fun r22 m21 => ?_)
              refine ev_if_eq (tgt := 112) (ea_at dt_X12_readPart 50 rfl) rfl (fun _ => ?_) (fun _ => ?_)
              · refine ev_iconst (ea_at dt_X12_readPart 53 rfl) ic_m1 ?_
                exact ev_drop (l' := [some (.ref 272), none]) ⟨Or.inr rfl, Or.inl rfl, trivial⟩ (jn_X12_readPart_113 G (-1) m21  hR)
              · refine ev_iconst (ea_at dt_X12_readPart 51 rfl) ic_5 ?_
                refine ev_goto (tgt := 113) (ea_at dt_X12_readPart 52 rfl) rfl ?_
                exact ev_drop (l' := [some (.ref 272), none]) ⟨Or.inr rfl, Or.inl rfl, trivial⟩ (jn_X12_readPart_113 G 5 m21  hR)
            · refine ev_iconst (ea_at dt_X12_readPart 45 rfl) ic_4 ?_
              refine ev_goto (tgt := 113) (ea_at dt_X12_readPart 46 rfl) rfl ?_
              exact ev_drop (l' := [some (.ref 272), none]) ⟨Or.inr rfl, Or.inl rfl, trivial⟩ (jn_X12_readPart_113 G 4 m19  hR)
          · refine ev_iconst (ea_at dt_X12_readPart 39 rfl) ic_3 ?_
            refine ev_goto (tgt := 113) (ea_at dt_X12_readPart 40 rfl) rfl ?_
            exact ev_drop (l' := [some (.ref 272), none]) ⟨Or.inr rfl, Or.inl rfl, trivial⟩ (jn_X12_readPart_113 G 3 m17  hR)
        · refine ev_iconst (ea_at dt_X12_readPart 33 rfl) ic_2 ?_
          refine ev_goto (tgt := 113) (ea_at dt_X12_readPart 34 rfl) rfl ?_
          exact ev_drop (l' := [some (.ref 272), none]) ⟨Or.inr rfl, Or.inl rfl, trivial⟩ (jn_X12_readPart_113 G 2 m15  hR)
      · refine ev_iconst (ea_at dt_X12_readPart 27 rfl) ic_1 ?_
        refine ev_goto (tgt := 113) (ea_at dt_X12_readPart 28 rfl) rfl ?_
        exact ev_drop (l' := [some (.ref 272), none]) ⟨Or.inr rfl, Or.inl rfl, trivial⟩ (jn_X12_readPart_113 G 1 m13  hR)
    · refine ev_iconst (ea_at dt_X12_readPart 21 rfl) ic_0 ?_
      refine ev_goto (tgt := 113) (ea_at dt_X12_readPart 22 rfl) rfl ?_
      exact ev_drop (l' := [some (.ref 272), none]) ⟨Or.inr rfl, Or.inl rfl, trivial⟩ (jn_X12_readPart_113 G 0 m11  hR)
def F_X12_readSum : ea_F := (ea_rm 15 0 0, cX12_readSum, RX12, some .boolean, 1, [], 0, 0)
def D_X12_readSum : List (Nat × Instr × Nat) := [(0, .aload_n 0, 1), (1, .invokevirtual 204, 3), (4, .ifCond .ne 5, 3), (7, .iconst 0, 1), (8, .ireturn, 1), (9, .aload_n 0, 1), (10, .bipush 43, 2), (12, .invokevirtual 207, 3), (15, .ifCond .eq 22, 3), (18, .aload_n 0, 1), (19, .invokevirtual 204, 3), (22, .ifCond .ne 5, 3), (25, .iconst 0, 1), (26, .ireturn, 1), (27, .aload_n 0, 1), (28, .bipush 9, 2), (30, .iconst 0, 1), (31, .invokevirtual 194, 3), (34, .goto (-25), 3), (37, .iconst 1, 1), (38, .ireturn, 1)]
theorem dt_X12_readSum : ∀ q ∈ D_X12_readSum, decode cX12_readSum q.1 = .ok q.2 := by decide +kernel
theorem mv_X12_readSum : ea_MV yX12_readSum (F_X12_readSum) 0 := ⟨⟨List.mem_append_right _ (List.mem_of_getElem? (i := 13) (by decide +kernel)), List.mem_append_right _ (List.mem_of_getElem? (i := 1680) (by decide +kernel)), ⟨by decide, by decide⟩, by decide +kernel⟩, List.mem_append_right _ (List.mem_of_getElem? (i := 1679) (by decide +kernel)), List.mem_append_left _ (List.mem_of_getElem? (i := 71) (by decide +kernel))⟩
def f_X12_readSum_s9  (s9 : ea_M) : Option ((ea_M) ⊕ ((Int32 × ea_M) ⊕ (ea_M))) :=
  ea_cl (f_X12_sign 43 s9) fun r4 m3 =>
  if r4 = 0 then
  some (.inr (.inr m3))
  else
  ea_cl (f_X12_readPart m3) fun r6 m5 =>
  if r6 = 0 then
  some (.inr (.inl (0, m5)))
  else
  ea_cl (f_X12_emits 9 0 m5) fun r8 m7 =>
  some (.inl m7)
def f_X12_readSum (m : ea_M) : Option (Int32 × ea_M) :=
  ea_cl (f_X12_readPart m) fun r2 m1 =>
  if r2 = 0 then
  some (0, m1)
  else
  ea_sl (ea_loop f_X12_readSum_s9 ea_fuel m1) (fun t => some t) (fun x9s =>
  some (1, x9s))
set_option maxHeartbeats 300000 in
theorem lp_X12_readSum_9 (G : ea_G) {res : ea_O}    {Ψ : ((Int32 × ea_M) ⊕ (ea_M)) → Prop} (hR : ∀ t : Int32 × ea_M, Ψ (.inl t) → res = (0, t)) (hX : ∀ x9s : ea_M, Ψ (.inr x9s) → ea_Ev G F_X12_readSum res 37 [none] [] x9s 0 0) : ∀ (f : Nat) (s9 : ea_M), ea_E G F_X12_readSum res 9 [some (.ref 272)] [] s9 0 0 (ea_loop f_X12_readSum_s9 f s9) Ψ := by
  refine ev_loop (G := G) (F := F_X12_readSum) (res := res) (pc := 9) (st := []) (k := 0) (n := 0) (step := f_X12_readSum_s9) (Ψ := Ψ) (fun (s9 : ea_M) => [some (.ref 272)]) (fun (s9 : ea_M) => s9) (fun s9 => ?_)
  have hC : ∀ s9 : ea_M, (Sum.elim (fun s9 : ea_M => ea_Ev G F_X12_readSum res 9 [some (.ref 272)] [] s9 0 0) Ψ) (.inl s9) → ea_Ev G F_X12_readSum res 9 [some (.ref 272)] [] s9 0 0 := fun _ h => h
  have hR : ∀ t : Int32 × ea_M, (Sum.elim (fun s9 : ea_M => ea_Ev G F_X12_readSum res 9 [some (.ref 272)] [] s9 0 0) Ψ) (.inr (.inl t)) → res = (0, t) := hR
  have hX : ∀ x9s : ea_M, (Sum.elim (fun s9 : ea_M => ea_Ev G F_X12_readSum res 9 [some (.ref 272)] [] s9 0 0) Ψ) (.inr (.inr x9s)) → ea_Ev G F_X12_readSum res 37 [none] [] x9s 0 0 := hX
  unfold f_X12_readSum_s9
  refine ev_aload_n (ea_at dt_X12_readSum 5 rfl) rfl ?_
  refine ev_bipush (ea_at dt_X12_readSum 6 rfl) bp_43 ?_
  refine ev_clI (F1 := F_X12_sign) (fun rY mY hY => ea_runV (As := [.int 43]) (ea_at dt_X12_readSum 7 rfl) ml_X12_207 mv_X12_sign (ok_X12_sign G 43 s9  rY mY hY) sh_272 rfl rfl rfl (Nat.le_of_ble_eq_true rfl) rfl) rfl (fun r4 m3 => ?_)
  refine ev_if_eq (tgt := 37) (ea_at dt_X12_readSum 8 rfl) rfl (fun _ => ?_) (fun _ => ?_)
  · exact ev_leaf (fun h => ea_drop (l' := [none]) ⟨Or.inl rfl, trivial⟩ (hX m3 h))
  · refine ev_aload_n (ea_at dt_X12_readSum 9 rfl) rfl ?_
    refine ev_clI (F1 := F_X12_readPart) (fun rY mY hY => ea_runV (As := []) (ea_at dt_X12_readSum 10 rfl) ml_X12_204 mv_X12_readPart (ok_X12_readPart G m3  rY mY hY) sh_272 rfl rfl rfl (Nat.le_of_ble_eq_true rfl) rfl) rfl (fun r6 m5 => ?_)
    refine ev_if_ne (tgt := 27) (ea_at dt_X12_readSum 11 rfl) rfl (fun _ => ?_) (fun _ => ?_)
    · refine ev_iconst (ea_at dt_X12_readSum 12 rfl) ic_0 ?_
      exact ev_zret (by decide) (ea_at dt_X12_readSum 13 rfl) rfl ⟨by decide, by decide⟩ (fun h => hR _ h)
    · refine ev_aload_n (ea_at dt_X12_readSum 14 rfl) rfl ?_
      refine ev_bipush (ea_at dt_X12_readSum 15 rfl) bp_9 ?_
      refine ev_iconst (ea_at dt_X12_readSum 16 rfl) ic_0 ?_
      refine ev_clU (F1 := F_X12_emits) (fun rY mY hY => ea_runV (As := [.int 9, .int 0]) (ea_at dt_X12_readSum 17 rfl) ml_X12_194 mv_X12_emits (ok_X12_emits G 9 0 m5  rY mY hY) sh_272 rfl rfl rfl (Nat.le_of_ble_eq_true rfl) rfl) rfl (fun r8 m7 => ?_)
      refine ev_goto (tgt := 9) (ea_at dt_X12_readSum 18 rfl) rfl ?_
      exact ev_leaf (fun h => ea_drop (l' := [some (.ref 272)]) ⟨Or.inr rfl, trivial⟩ (hC m7 h))
set_option maxHeartbeats 300000 in
theorem ok_X12_readSum (G : ea_G) (m : ea_M)  (rZ : Int32) (mZ : ea_M) (hZ : f_X12_readSum m = some (rZ, mZ)) : ea_Met G yX12_readSum F_X12_readSum [.ref 272] m (0, rZ, mZ) := by
  refine ea_met (F := F_X12_readSum) (by decide +kernel) rfl rfl (Nat.le_of_ble_eq_true rfl) (by simp only [List.mem_cons, List.not_mem_nil, or_false]; intro v hv; rcases hv with rfl <;> rfl) ((?_ : ea_E G F_X12_readSum (0, rZ, mZ) 0 [some (.ref 272)] [] m 0 0 (f_X12_readSum m) (fun t => t = (rZ, mZ))) (rZ, mZ) hZ rfl)
  have hR : ∀ t : Int32 × ea_M, t = (rZ, mZ) → ((0, rZ, mZ) : ea_O) = (0, t) := fun t h => by rw [h]
  unfold f_X12_readSum
  refine ev_aload_n (ea_at dt_X12_readSum 0 rfl) rfl ?_
  refine ev_clI (F1 := F_X12_readPart) (fun rY mY hY => ea_runV (As := []) (ea_at dt_X12_readSum 1 rfl) ml_X12_204 mv_X12_readPart (ok_X12_readPart G m  rY mY hY) sh_272 rfl rfl rfl (Nat.le_of_ble_eq_true rfl) rfl) rfl (fun r2 m1 => ?_)
  refine ev_if_ne (tgt := 9) (ea_at dt_X12_readSum 2 rfl) rfl (fun _ => ?_) (fun _ => ?_)
  · refine ev_iconst (ea_at dt_X12_readSum 3 rfl) ic_0 ?_
    exact ev_zret (by decide) (ea_at dt_X12_readSum 4 rfl) rfl ⟨by decide, by decide⟩ (fun h => hR _ h)
  · refine ev_drop (l' := [some (.ref 272)]) ⟨Or.inr rfl, trivial⟩ ?_
    refine ev_sl (lp_X12_readSum_9 G  (fun t h => by obtain ⟨t1, e1, q1⟩ := h; cases e1; exact hR t q1) (fun x9s h => ?_) ea_fuel m1)
    obtain ⟨t1, e1, q1⟩ := h
    refine (?_ : ea_E G F_X12_readSum (0, rZ, mZ) 37 [none] [] x9s 0 0 _ (fun t => t = (rZ, mZ))) t1 e1 q1
    refine ev_iconst (ea_at dt_X12_readSum 19 rfl) ic_1 ?_
    exact ev_zret (by decide) (ea_at dt_X12_readSum 20 rfl) rfl ⟨by decide, by decide⟩ (fun h => hR _ h)
def F_X12_readTag : ea_F := (ea_rm 14 0 0, cX12_readTag, RX12, some .boolean, 2, [], 0, 0)
def D_X12_readTag : List (Nat × Instr × Nat) := [(0, .aload_n 0, 1), (1, .invokevirtual 117, 3), (4, .aload_n 0, 1), (5, .ldc 211, 2), (7, .invokevirtual 120, 3), (10, .ifCond .eq 8, 3), (13, .bipush 6, 2), (15, .goto 18, 3), (18, .aload_n 0, 1), (19, .ldc 213, 2), (21, .invokevirtual 120, 3), (24, .ifCond .eq 8, 3), (27, .bipush 7, 2), (29, .goto 4, 3), (32, .iconst (-1), 1), (33, .istore_n 1, 1), (34, .iload_n 1, 1), (35, .ifCond .lt 12, 3), (38, .aload_n 0, 1), (39, .iload_n 1, 1), (40, .iconst 0, 1), (41, .invokevirtual 194, 3), (44, .goto 11, 3), (47, .aload_n 0, 1), (48, .aload_n 0, 1), (49, .getfield 102, 3), (52, .putfield 92, 3), (55, .iload_n 1, 1), (56, .ifCond .lt 7, 3), (59, .iconst 1, 1), (60, .goto 4, 3), (63, .iconst 0, 1), (64, .ireturn, 1)]
theorem dt_X12_readTag : ∀ q ∈ D_X12_readTag, decode cX12_readTag q.1 = .ok q.2 := by decide +kernel
theorem mv_X12_readTag : ea_MV yX12_readTag (F_X12_readTag) 0 := ⟨⟨List.mem_append_right _ (List.mem_of_getElem? (i := 13) (by decide +kernel)), List.mem_append_right _ (List.mem_of_getElem? (i := 1674) (by decide +kernel)), ⟨by decide, by decide⟩, by decide +kernel⟩, List.mem_append_right _ (List.mem_of_getElem? (i := 1673) (by decide +kernel)), List.mem_append_left _ (List.mem_of_getElem? (i := 70) (by decide +kernel))⟩
def f_X12_readTag_j55 (x11 : Int32) (m12 : ea_M) : Option (Int32 × ea_M) :=
  if x11 < 0 then
  some (0, m12)
  else
  some (1, m12)
def f_X12_readTag_j33 (x7 : Int32) (m8 : ea_M) : Option (Int32 × ea_M) :=
  if x7 < 0 then
  ea_bd (m8 272 12) fun x9 =>
  ea_bd (ea_st m8 272 10 x9) fun m10 =>
  f_X12_readTag_j55 x7 m10
  else
  ea_cl (f_X12_emits x7 0 m8) fun r14 m13 =>
  f_X12_readTag_j55 x7 m13
def f_X12_readTag (m : ea_M) : Option (Int32 × ea_M) :=
  ea_cl (f_X12_letters m) fun r2 m1 =>
  ea_cl (f_X12_isWord 66 m1) fun r4 m3 =>
  if r4 = 0 then
  ea_cl (f_X12_isWord 67 m3) fun r6 m5 =>
  if r6 = 0 then
  f_X12_readTag_j33 (-1) m5
  else
  f_X12_readTag_j33 7 m5
  else
  f_X12_readTag_j33 6 m3
set_option maxHeartbeats 300000 in
theorem jn_X12_readTag_55 (G : ea_G) {res : ea_O}  (x11 : Int32) (m12 : ea_M)  {Φ : (Int32 × ea_M) → Prop} (hR : ∀ t : Int32 × ea_M, Φ t → res = (0, t)) : ea_E G F_X12_readTag res 55 [none, some (.int x11)] [] m12 0 0 (f_X12_readTag_j55 x11 m12) Φ := by
  unfold f_X12_readTag_j55
  refine ev_iload_n (ea_at dt_X12_readTag 27 rfl) rfl ?_
  refine ev_if_lt (tgt := 63) (ea_at dt_X12_readTag 28 rfl) rfl (fun _ => ?_) (fun _ => ?_)
  · refine ev_iconst (ea_at dt_X12_readTag 31 rfl) ic_0 ?_
    exact ev_zret (by decide) (ea_at dt_X12_readTag 32 rfl) rfl ⟨by decide, by decide⟩ (fun h => hR _ h)
  · refine ev_iconst (ea_at dt_X12_readTag 29 rfl) ic_1 ?_
    refine ev_goto (tgt := 64) (ea_at dt_X12_readTag 30 rfl) rfl ?_
    exact ev_zret (by decide) (ea_at dt_X12_readTag 32 rfl) rfl ⟨by decide, by decide⟩ (fun h => hR _ h)
set_option maxHeartbeats 300000 in
theorem jn_X12_readTag_33 (G : ea_G) {res : ea_O}  (x7 : Int32) (m8 : ea_M)  {Φ : (Int32 × ea_M) → Prop} (hR : ∀ t : Int32 × ea_M, Φ t → res = (0, t)) : ea_E G F_X12_readTag res 33 [some (.ref 272), none] [.int x7] m8 0 0 (f_X12_readTag_j33 x7 m8) Φ := by
  unfold f_X12_readTag_j33
  refine ev_istore_n (ls' := [some (.ref 272), some (.int x7)]) (ea_at dt_X12_readTag 15 rfl) (ea_lt rfl) rfl ?_
  refine ev_iload_n (ea_at dt_X12_readTag 16 rfl) rfl ?_
  refine ev_if_lt (tgt := 47) (ea_at dt_X12_readTag 17 rfl) rfl (fun _ => ?_) (fun _ => ?_)
  · refine ev_aload_n (ea_at dt_X12_readTag 23 rfl) rfl ?_
    refine ev_aload_n (ea_at dt_X12_readTag 24 rfl) rfl ?_
    refine ev_getI (ea_at dt_X12_readTag 25 rfl) fl_X12_102 sh_272 rfl ?_
    refine ev_i (fun x9 => ?_)
    refine ev_putI (ea_at dt_X12_readTag 26 rfl) fl_X12_92 fp_12_10 sh_272 rfl ?_
    refine ev_m (fun m10 => ?_)
    exact ev_drop (l' := [none, some (.int x7)]) ⟨Or.inl rfl, Or.inr rfl, trivial⟩ (jn_X12_readTag_55 G x7 m10  hR)
  · refine ev_aload_n (ea_at dt_X12_readTag 18 rfl) rfl ?_
    refine ev_iload_n (ea_at dt_X12_readTag 19 rfl) rfl ?_
    refine ev_iconst (ea_at dt_X12_readTag 20 rfl) ic_0 ?_
    refine ev_clU (F1 := F_X12_emits) (fun rY mY hY => ea_runV (As := [.int x7, .int 0]) (ea_at dt_X12_readTag 21 rfl) ml_X12_194 mv_X12_emits (ok_X12_emits G x7 0 m8  rY mY hY) sh_272 rfl rfl rfl (Nat.le_of_ble_eq_true rfl) rfl) rfl (fun r14 m13 => ?_)
    refine ev_goto (tgt := 55) (ea_at dt_X12_readTag 22 rfl) rfl ?_
    exact ev_drop (l' := [none, some (.int x7)]) ⟨Or.inl rfl, Or.inr rfl, trivial⟩ (jn_X12_readTag_55 G x7 m13  hR)
set_option maxHeartbeats 300000 in
theorem ok_X12_readTag (G : ea_G) (m : ea_M)  (rZ : Int32) (mZ : ea_M) (hZ : f_X12_readTag m = some (rZ, mZ)) : ea_Met G yX12_readTag F_X12_readTag [.ref 272] m (0, rZ, mZ) := by
  refine ea_met (F := F_X12_readTag) (by decide +kernel) rfl rfl (Nat.le_of_ble_eq_true rfl) (by simp only [List.mem_cons, List.not_mem_nil, or_false]; intro v hv; rcases hv with rfl <;> rfl) ((?_ : ea_E G F_X12_readTag (0, rZ, mZ) 0 [some (.ref 272), none] [] m 0 0 (f_X12_readTag m) (fun t => t = (rZ, mZ))) (rZ, mZ) hZ rfl)
  have hR : ∀ t : Int32 × ea_M, t = (rZ, mZ) → ((0, rZ, mZ) : ea_O) = (0, t) := fun t h => by rw [h]
  unfold f_X12_readTag
  refine ev_aload_n (ea_at dt_X12_readTag 0 rfl) rfl ?_
  refine ev_clU (F1 := F_X12_letters) (fun rY mY hY => ea_runV (As := []) (ea_at dt_X12_readTag 1 rfl) ml_X12_117 mv_X12_letters (ok_X12_letters G m  rY mY hY) sh_272 rfl rfl rfl (Nat.le_of_ble_eq_true rfl) rfl) rfl (fun r2 m1 => ?_)
  refine ev_aload_n (ea_at dt_X12_readTag 2 rfl) rfl ?_
  refine ev_ldcS (j := 66) (ea_at dt_X12_readTag 3 rfl) rfl ?_
  refine ev_clI (F1 := F_X12_isWord) (fun rY mY hY => ea_runV (As := [.ref (1000 + 66)]) (ea_at dt_X12_readTag 4 rfl) ml_X12_120 mv_X12_isWord (ok_X12_isWord G 66 m1 (by decide) rY mY hY) sh_272 rfl rfl rfl (Nat.le_of_ble_eq_true rfl) rfl) rfl (fun r4 m3 => ?_)
  refine ev_if_eq (tgt := 18) (ea_at dt_X12_readTag 5 rfl) rfl (fun _ => ?_) (fun _ => ?_)
  · refine ev_aload_n (ea_at dt_X12_readTag 8 rfl) rfl ?_
    refine ev_ldcS (j := 67) (ea_at dt_X12_readTag 9 rfl) rfl ?_
    refine ev_clI (F1 := F_X12_isWord) (fun rY mY hY => ea_runV (As := [.ref (1000 + 67)]) (ea_at dt_X12_readTag 10 rfl) ml_X12_120 mv_X12_isWord (ok_X12_isWord G 67 m3 (by decide) rY mY hY) sh_272 rfl rfl rfl (Nat.le_of_ble_eq_true rfl) rfl) rfl (fun r6 m5 => ?_)
    refine ev_if_eq (tgt := 32) (ea_at dt_X12_readTag 11 rfl) rfl (fun _ => ?_) (fun _ => ?_)
    · refine ev_iconst (ea_at dt_X12_readTag 14 rfl) ic_m1 ?_
      exact ev_drop (l' := [some (.ref 272), none]) ⟨Or.inr rfl, Or.inl rfl, trivial⟩ (jn_X12_readTag_33 G (-1) m5  hR)
    · refine ev_bipush (ea_at dt_X12_readTag 12 rfl) bp_7 ?_
      refine ev_goto (tgt := 33) (ea_at dt_X12_readTag 13 rfl) rfl ?_
      exact ev_drop (l' := [some (.ref 272), none]) ⟨Or.inr rfl, Or.inl rfl, trivial⟩ (jn_X12_readTag_33 G 7 m5  hR)
  · refine ev_bipush (ea_at dt_X12_readTag 6 rfl) bp_6 ?_
    refine ev_goto (tgt := 33) (ea_at dt_X12_readTag 7 rfl) rfl ?_
    exact ev_drop (l' := [some (.ref 272), none]) ⟨Or.inr rfl, Or.inl rfl, trivial⟩ (jn_X12_readTag_33 G 6 m3  hR)
def F_X12_readAllOf (r0 : Nat) : ea_F := (ea_rm (18 + 4 * r0) 0 0, cX12_readAllOf, RX12, some .boolean, 1, [], 0, 0)
def D_X12_readAllOf : List (Nat × Instr × Nat) := [(0, .aload_n 0, 1), (1, .invokevirtual 226, 3), (4, .ifCond .ne 5, 3), (7, .iconst 0, 1), (8, .ireturn, 1), (9, .aload_n 0, 1), (10, .ldc 235, 2), (12, .invokevirtual 223, 3), (15, .ifCond .eq 22, 3), (18, .aload_n 0, 1), (19, .invokevirtual 226, 3), (22, .ifCond .ne 5, 3), (25, .iconst 0, 1), (26, .ireturn, 1), (27, .aload_n 0, 1), (28, .bipush 13, 2), (30, .iconst 0, 1), (31, .invokevirtual 194, 3), (34, .goto (-25), 3), (37, .iconst 1, 1), (38, .ireturn, 1)]
theorem dt_X12_readAllOf : ∀ q ∈ D_X12_readAllOf, decode cX12_readAllOf q.1 = .ok q.2 := by decide +kernel
theorem mv0_X12_readAllOf : ea_MV yX12_readAllOf (F_X12_readAllOf 0) 0 := ⟨⟨List.mem_append_right _ (List.mem_of_getElem? (i := 13) (by decide +kernel)), List.mem_append_right _ (List.mem_of_getElem? (i := 1657) (by decide +kernel)), ⟨by decide, by decide⟩, by decide +kernel⟩, List.mem_append_right _ (List.mem_of_getElem? (i := 1656) (by decide +kernel)), List.mem_append_left _ (List.mem_of_getElem? (i := 66) (by decide +kernel))⟩
theorem mv_X12_readAllOf (r0 : Nat) : ea_MV yX12_readAllOf (F_X12_readAllOf r0) 0 := mv0_X12_readAllOf
def F_X12_readCond (r0 : Nat) : ea_F := (ea_rm (19 + 4 * r0) 0 0, cX12_readCond, RX12, some .boolean, 1, [], 0, 0)
def D_X12_readCond : List (Nat × Instr × Nat) := [(0, .aload_n 0, 1), (1, .invokevirtual 237, 3), (4, .ifCond .ne 5, 3), (7, .iconst 0, 1), (8, .ireturn, 1), (9, .aload_n 0, 1), (10, .ldc 240, 2), (12, .invokevirtual 223, 3), (15, .ifCond .eq 22, 3), (18, .aload_n 0, 1), (19, .invokevirtual 237, 3), (22, .ifCond .ne 5, 3), (25, .iconst 0, 1), (26, .ireturn, 1), (27, .aload_n 0, 1), (28, .bipush 14, 2), (30, .iconst 0, 1), (31, .invokevirtual 194, 3), (34, .goto (-25), 3), (37, .iconst 1, 1), (38, .ireturn, 1)]
theorem dt_X12_readCond : ∀ q ∈ D_X12_readCond, decode cX12_readCond q.1 = .ok q.2 := by decide +kernel
theorem mv0_X12_readCond : ea_MV yX12_readCond (F_X12_readCond 0) 0 := ⟨⟨List.mem_append_right _ (List.mem_of_getElem? (i := 13) (by decide +kernel)), List.mem_append_right _ (List.mem_of_getElem? (i := 1653) (by decide +kernel)), ⟨by decide, by decide⟩, by decide +kernel⟩, List.mem_append_right _ (List.mem_of_getElem? (i := 1652) (by decide +kernel)), List.mem_append_left _ (List.mem_of_getElem? (i := 65) (by decide +kernel))⟩
theorem mv_X12_readCond (r0 : Nat) : ea_MV yX12_readCond (F_X12_readCond r0) 0 := mv0_X12_readCond
def F_X12_readAtom (r0 : Nat) : ea_F := (ea_rm (17 + 4 * r0) 0 0, cX12_readAtom, RX12, some .boolean, 2, [], 0, 0)
def D_X12_readAtom : List (Nat × Instr × Nat) := [(0, .aload_n 0, 1), (1, .bipush 40, 2), (3, .invokevirtual 207, 3), (6, .ifCond .eq 50, 3), (9, .aload_n 0, 1), (10, .getfield 215, 3), (13, .bipush 6, 2), (15, .if_icmp .ne 5, 3), (18, .iconst 0, 1), (19, .ireturn, 1), (20, .aload_n 0, 1), (21, .dup, 1), (22, .getfield 215, 3), (25, .iconst 1, 1), (26, .iadd, 1), (27, .putfield 215, 3), (30, .aload_n 0, 1), (31, .invokevirtual 218, 3), (34, .ifCond .ne 5, 3), (37, .iconst 0, 1), (38, .ireturn, 1), (39, .aload_n 0, 1), (40, .dup, 1), (41, .getfield 215, 3), (44, .iconst 1, 1), (45, .isub, 1), (46, .putfield 215, 3), (49, .aload_n 0, 1), (50, .bipush 41, 2), (52, .invokevirtual 207, 3), (55, .ireturn, 1), (56, .aload_n 0, 1), (57, .ldc 221, 2), (59, .invokevirtual 223, 3), (62, .ifCond .eq 52, 3), (65, .aload_n 0, 1), (66, .getfield 215, 3), (69, .bipush 6, 2), (71, .if_icmp .ne 5, 3), (74, .iconst 0, 1), (75, .ireturn, 1), (76, .aload_n 0, 1), (77, .dup, 1), (78, .getfield 215, 3), (81, .iconst 1, 1), (82, .iadd, 1), (83, .putfield 215, 3), (86, .aload_n 0, 1), (87, .invokevirtual 226, 3), (90, .ifCond .ne 5, 3), (93, .iconst 0, 1), (94, .ireturn, 1), (95, .aload_n 0, 1), (96, .dup, 1), (97, .getfield 215, 3), (100, .iconst 1, 1), (101, .isub, 1), (102, .putfield 215, 3), (105, .aload_n 0, 1), (106, .bipush 12, 2), (108, .iconst 0, 1), (109, .invokevirtual 194, 3), (112, .iconst 1, 1), (113, .ireturn, 1), (114, .aload_n 0, 1), (115, .invokevirtual 229, 3), (118, .ifCond .eq 5, 3), (121, .iconst 1, 1), (122, .ireturn, 1), (123, .aload_n 0, 1), (124, .invokevirtual 232, 3), (127, .ifCond .ne 5, 3), (130, .iconst 0, 1), (131, .ireturn, 1), (132, .aload_n 0, 1), (133, .bipush 60, 2), (135, .invokevirtual 207, 3), (138, .istore_n 1, 1), (139, .iload_n 1, 1), (140, .ifCond .ne 12, 3), (143, .aload_n 0, 1), (144, .bipush 62, 2), (146, .invokevirtual 207, 3), (149, .ifCond .eq 10, 3), (152, .aload_n 0, 1), (153, .invokevirtual 232, 3), (156, .ifCond .ne 5, 3), (159, .iconst 0, 1), (160, .ireturn, 1), (161, .aload_n 0, 1), (162, .iload_n 1, 1), (163, .ifCond .eq 8, 3), (166, .bipush 10, 2), (168, .goto 5, 3), (171, .bipush 11, 2), (173, .iconst 0, 1), (174, .invokevirtual 194, 3), (177, .iconst 1, 1), (178, .ireturn, 1)]
theorem dt_X12_readAtom : ∀ q ∈ D_X12_readAtom, decode cX12_readAtom q.1 = .ok q.2 := by decide +kernel
theorem mv0_X12_readAtom : ea_MV yX12_readAtom (F_X12_readAtom 0) 0 := ⟨⟨List.mem_append_right _ (List.mem_of_getElem? (i := 13) (by decide +kernel)), List.mem_append_right _ (List.mem_of_getElem? (i := 1661) (by decide +kernel)), ⟨by decide, by decide⟩, by decide +kernel⟩, List.mem_append_right _ (List.mem_of_getElem? (i := 1660) (by decide +kernel)), List.mem_append_left _ (List.mem_of_getElem? (i := 67) (by decide +kernel))⟩
theorem mv_X12_readAtom (r0 : Nat) : ea_MV yX12_readAtom (F_X12_readAtom r0) 0 := mv0_X12_readAtom
def f_X12_readAllOf_s9 (A : ea_M → Option (Int32 × ea_M))  (s9 : ea_M) : Option ((ea_M) ⊕ ((Int32 × ea_M) ⊕ (ea_M))) :=
  ea_cl (f_X12_passes 71 s9) fun r4 m3 =>
  if r4 = 0 then
  some (.inr (.inr m3))
  else
  ea_cl (A m3) fun r6 m5 =>
  if r6 = 0 then
  some (.inr (.inl (0, m5)))
  else
  ea_cl (f_X12_emits 13 0 m5) fun r8 m7 =>
  some (.inl m7)
def f_X12_readAllOf (A : ea_M → Option (Int32 × ea_M)) (m : ea_M) : Option (Int32 × ea_M) :=
  ea_cl (A m) fun r2 m1 =>
  if r2 = 0 then
  some (0, m1)
  else
  ea_sl (ea_loop (f_X12_readAllOf_s9 A ) ea_fuel m1) (fun t => some t) (fun x9s =>
  some (1, x9s))
set_option maxHeartbeats 300000 in
theorem lp_X12_readAllOf_9 (G : ea_G) {res : ea_O} (A : ea_M → Option (Int32 × ea_M)) (r0 : Nat) (hA : ∀  (m : ea_M) (r : Int32) (m1 : ea_M), A  m = some (r, m1) → ea_Met G yX12_readAtom (F_X12_readAtom r0) [.ref 272] m (0, r, m1))    {Ψ : ((Int32 × ea_M) ⊕ (ea_M)) → Prop} (hR : ∀ t : Int32 × ea_M, Ψ (.inl t) → res = (0, t)) (hX : ∀ x9s : ea_M, Ψ (.inr x9s) → ea_Ev G (F_X12_readAllOf r0) res 37 [none] [] x9s 0 0) : ∀ (f : Nat) (s9 : ea_M), ea_E G (F_X12_readAllOf r0) res 9 [some (.ref 272)] [] s9 0 0 (ea_loop (f_X12_readAllOf_s9 A ) f s9) Ψ := by
  refine ev_loop (G := G) (F := (F_X12_readAllOf r0)) (res := res) (pc := 9) (st := []) (k := 0) (n := 0) (step := (f_X12_readAllOf_s9 A )) (Ψ := Ψ) (fun (s9 : ea_M) => [some (.ref 272)]) (fun (s9 : ea_M) => s9) (fun s9 => ?_)
  have hC : ∀ s9 : ea_M, (Sum.elim (fun s9 : ea_M => ea_Ev G (F_X12_readAllOf r0) res 9 [some (.ref 272)] [] s9 0 0) Ψ) (.inl s9) → ea_Ev G (F_X12_readAllOf r0) res 9 [some (.ref 272)] [] s9 0 0 := fun _ h => h
  have hR : ∀ t : Int32 × ea_M, (Sum.elim (fun s9 : ea_M => ea_Ev G (F_X12_readAllOf r0) res 9 [some (.ref 272)] [] s9 0 0) Ψ) (.inr (.inl t)) → res = (0, t) := hR
  have hX : ∀ x9s : ea_M, (Sum.elim (fun s9 : ea_M => ea_Ev G (F_X12_readAllOf r0) res 9 [some (.ref 272)] [] s9 0 0) Ψ) (.inr (.inr x9s)) → ea_Ev G (F_X12_readAllOf r0) res 37 [none] [] x9s 0 0 := hX
  unfold f_X12_readAllOf_s9
  refine ev_aload_n (ea_at dt_X12_readAllOf 5 rfl) rfl ?_
  refine ev_ldcS (j := 71) (ea_at dt_X12_readAllOf 6 rfl) rfl ?_
  refine ev_clI (F1 := F_X12_passes) (fun rY mY hY => ea_runV (As := [.ref (1000 + 71)]) (ea_at dt_X12_readAllOf 7 rfl) ml_X12_223 mv_X12_passes (ok_X12_passes G 71 s9 (by decide) rY mY hY) sh_272 rfl rfl rfl (Nat.le_of_ble_eq_true rfl) (ea_okR (by omega) (by decide))) rfl (fun r4 m3 => ?_)
  refine ev_if_eq (tgt := 37) (ea_at dt_X12_readAllOf 8 rfl) rfl (fun _ => ?_) (fun _ => ?_)
  · exact ev_leaf (fun h => ea_drop (l' := [none]) ⟨Or.inl rfl, trivial⟩ (hX m3 h))
  · refine ev_aload_n (ea_at dt_X12_readAllOf 9 rfl) rfl ?_
    refine ev_clI (F1 := (F_X12_readAtom r0)) (fun rY mY hY => ea_runV (As := []) (ea_at dt_X12_readAllOf 10 rfl) ml_X12_226 (mv_X12_readAtom r0) (hA m3 rY mY hY) sh_272 rfl rfl rfl (Nat.le_of_ble_eq_true rfl) (ea_okR (by omega) (by decide))) rfl (fun r6 m5 => ?_)
    refine ev_if_ne (tgt := 27) (ea_at dt_X12_readAllOf 11 rfl) rfl (fun _ => ?_) (fun _ => ?_)
    · refine ev_iconst (ea_at dt_X12_readAllOf 12 rfl) ic_0 ?_
      exact ev_zret (by decide) (ea_at dt_X12_readAllOf 13 rfl) rfl ⟨Nat.le_of_ble_eq_true rfl, Nat.le_of_ble_eq_true rfl⟩ (fun h => hR _ h)
    · refine ev_aload_n (ea_at dt_X12_readAllOf 14 rfl) rfl ?_
      refine ev_bipush (ea_at dt_X12_readAllOf 15 rfl) bp_13 ?_
      refine ev_iconst (ea_at dt_X12_readAllOf 16 rfl) ic_0 ?_
      refine ev_clU (F1 := F_X12_emits) (fun rY mY hY => ea_runV (As := [.int 13, .int 0]) (ea_at dt_X12_readAllOf 17 rfl) ml_X12_194 mv_X12_emits (ok_X12_emits G 13 0 m5  rY mY hY) sh_272 rfl rfl rfl (Nat.le_of_ble_eq_true rfl) (ea_okR (by omega) (by decide))) rfl (fun r8 m7 => ?_)
      refine ev_goto (tgt := 9) (ea_at dt_X12_readAllOf 18 rfl) rfl ?_
      exact ev_leaf (fun h => ea_drop (l' := [some (.ref 272)]) ⟨Or.inr rfl, trivial⟩ (hC m7 h))
set_option maxHeartbeats 300000 in
theorem ok_X12_readAllOf (G : ea_G) (r0 : Nat) (A : ea_M → Option (Int32 × ea_M)) (hA : ∀  (m : ea_M) (r : Int32) (m1 : ea_M), A  m = some (r, m1) → ea_Met G yX12_readAtom (F_X12_readAtom r0) [.ref 272] m (0, r, m1)) (m : ea_M)  (rZ : Int32) (mZ : ea_M) (hZ : f_X12_readAllOf A m = some (rZ, mZ)) : ea_Met G yX12_readAllOf (F_X12_readAllOf r0) [.ref 272] m (0, rZ, mZ) := by
  refine ea_met (F := (F_X12_readAllOf r0)) (by decide +kernel) rfl rfl (Nat.le_of_ble_eq_true (rfl : Nat.ble _ 1 = true)) (by simp only [List.mem_cons, List.not_mem_nil, or_false]; intro v hv; rcases hv with rfl <;> rfl) ((?_ : ea_E G (F_X12_readAllOf r0) (0, rZ, mZ) 0 [some (.ref 272)] [] m 0 0 (f_X12_readAllOf A m) (fun t => t = (rZ, mZ))) (rZ, mZ) hZ rfl)
  have hR : ∀ t : Int32 × ea_M, t = (rZ, mZ) → ((0, rZ, mZ) : ea_O) = (0, t) := fun t h => by rw [h]
  unfold f_X12_readAllOf
  refine ev_aload_n (ea_at dt_X12_readAllOf 0 rfl) rfl ?_
  refine ev_clI (F1 := (F_X12_readAtom r0)) (fun rY mY hY => ea_runV (As := []) (ea_at dt_X12_readAllOf 1 rfl) ml_X12_226 (mv_X12_readAtom r0) (hA m rY mY hY) sh_272 rfl rfl rfl (Nat.le_of_ble_eq_true rfl) (ea_okR (by omega) (by decide))) rfl (fun r2 m1 => ?_)
  refine ev_if_ne (tgt := 9) (ea_at dt_X12_readAllOf 2 rfl) rfl (fun _ => ?_) (fun _ => ?_)
  · refine ev_iconst (ea_at dt_X12_readAllOf 3 rfl) ic_0 ?_
    exact ev_zret (by decide) (ea_at dt_X12_readAllOf 4 rfl) rfl ⟨Nat.le_of_ble_eq_true rfl, Nat.le_of_ble_eq_true rfl⟩ (fun h => hR _ h)
  · refine ev_drop (l' := [some (.ref 272)]) ⟨Or.inr rfl, trivial⟩ ?_
    refine ev_sl (lp_X12_readAllOf_9 G A r0 hA  (fun t h => by obtain ⟨t1, e1, q1⟩ := h; cases e1; exact hR t q1) (fun x9s h => ?_) ea_fuel m1)
    obtain ⟨t1, e1, q1⟩ := h
    refine (?_ : ea_E G (F_X12_readAllOf r0) (0, rZ, mZ) 37 [none] [] x9s 0 0 _ (fun t => t = (rZ, mZ))) t1 e1 q1
    refine ev_iconst (ea_at dt_X12_readAllOf 19 rfl) ic_1 ?_
    exact ev_zret (by decide) (ea_at dt_X12_readAllOf 20 rfl) rfl ⟨Nat.le_of_ble_eq_true rfl, Nat.le_of_ble_eq_true rfl⟩ (fun h => hR _ h)
def f_X12_readCond_s9 (A : ea_M → Option (Int32 × ea_M))  (s9 : ea_M) : Option ((ea_M) ⊕ ((Int32 × ea_M) ⊕ (ea_M))) :=
  ea_cl (f_X12_passes 72 s9) fun r4 m3 =>
  if r4 = 0 then
  some (.inr (.inr m3))
  else
  ea_cl (f_X12_readAllOf A m3) fun r6 m5 =>
  if r6 = 0 then
  some (.inr (.inl (0, m5)))
  else
  ea_cl (f_X12_emits 14 0 m5) fun r8 m7 =>
  some (.inl m7)
def f_X12_readCond (A : ea_M → Option (Int32 × ea_M)) (m : ea_M) : Option (Int32 × ea_M) :=
  ea_cl (f_X12_readAllOf A m) fun r2 m1 =>
  if r2 = 0 then
  some (0, m1)
  else
  ea_sl (ea_loop (f_X12_readCond_s9 A ) ea_fuel m1) (fun t => some t) (fun x9s =>
  some (1, x9s))
set_option maxHeartbeats 300000 in
theorem lp_X12_readCond_9 (G : ea_G) {res : ea_O} (A : ea_M → Option (Int32 × ea_M)) (r0 : Nat) (hA : ∀  (m : ea_M) (r : Int32) (m1 : ea_M), A  m = some (r, m1) → ea_Met G yX12_readAtom (F_X12_readAtom r0) [.ref 272] m (0, r, m1))    {Ψ : ((Int32 × ea_M) ⊕ (ea_M)) → Prop} (hR : ∀ t : Int32 × ea_M, Ψ (.inl t) → res = (0, t)) (hX : ∀ x9s : ea_M, Ψ (.inr x9s) → ea_Ev G (F_X12_readCond r0) res 37 [none] [] x9s 0 0) : ∀ (f : Nat) (s9 : ea_M), ea_E G (F_X12_readCond r0) res 9 [some (.ref 272)] [] s9 0 0 (ea_loop (f_X12_readCond_s9 A ) f s9) Ψ := by
  refine ev_loop (G := G) (F := (F_X12_readCond r0)) (res := res) (pc := 9) (st := []) (k := 0) (n := 0) (step := (f_X12_readCond_s9 A )) (Ψ := Ψ) (fun (s9 : ea_M) => [some (.ref 272)]) (fun (s9 : ea_M) => s9) (fun s9 => ?_)
  have hC : ∀ s9 : ea_M, (Sum.elim (fun s9 : ea_M => ea_Ev G (F_X12_readCond r0) res 9 [some (.ref 272)] [] s9 0 0) Ψ) (.inl s9) → ea_Ev G (F_X12_readCond r0) res 9 [some (.ref 272)] [] s9 0 0 := fun _ h => h
  have hR : ∀ t : Int32 × ea_M, (Sum.elim (fun s9 : ea_M => ea_Ev G (F_X12_readCond r0) res 9 [some (.ref 272)] [] s9 0 0) Ψ) (.inr (.inl t)) → res = (0, t) := hR
  have hX : ∀ x9s : ea_M, (Sum.elim (fun s9 : ea_M => ea_Ev G (F_X12_readCond r0) res 9 [some (.ref 272)] [] s9 0 0) Ψ) (.inr (.inr x9s)) → ea_Ev G (F_X12_readCond r0) res 37 [none] [] x9s 0 0 := hX
  unfold f_X12_readCond_s9
  refine ev_aload_n (ea_at dt_X12_readCond 5 rfl) rfl ?_
  refine ev_ldcS (j := 72) (ea_at dt_X12_readCond 6 rfl) rfl ?_
  refine ev_clI (F1 := F_X12_passes) (fun rY mY hY => ea_runV (As := [.ref (1000 + 72)]) (ea_at dt_X12_readCond 7 rfl) ml_X12_223 mv_X12_passes (ok_X12_passes G 72 s9 (by decide) rY mY hY) sh_272 rfl rfl rfl (Nat.le_of_ble_eq_true rfl) (ea_okR (by omega) (by decide))) rfl (fun r4 m3 => ?_)
  refine ev_if_eq (tgt := 37) (ea_at dt_X12_readCond 8 rfl) rfl (fun _ => ?_) (fun _ => ?_)
  · exact ev_leaf (fun h => ea_drop (l' := [none]) ⟨Or.inl rfl, trivial⟩ (hX m3 h))
  · refine ev_aload_n (ea_at dt_X12_readCond 9 rfl) rfl ?_
    refine ev_clI (F1 := (F_X12_readAllOf r0)) (fun rY mY hY => ea_runV (As := []) (ea_at dt_X12_readCond 10 rfl) ml_X12_237 (mv_X12_readAllOf r0) (ok_X12_readAllOf G r0 A hA m3  rY mY hY) sh_272 rfl rfl rfl (Nat.le_of_ble_eq_true rfl) (ea_okR (by omega) (by decide))) rfl (fun r6 m5 => ?_)
    refine ev_if_ne (tgt := 27) (ea_at dt_X12_readCond 11 rfl) rfl (fun _ => ?_) (fun _ => ?_)
    · refine ev_iconst (ea_at dt_X12_readCond 12 rfl) ic_0 ?_
      exact ev_zret (by decide) (ea_at dt_X12_readCond 13 rfl) rfl ⟨Nat.le_of_ble_eq_true rfl, Nat.le_of_ble_eq_true rfl⟩ (fun h => hR _ h)
    · refine ev_aload_n (ea_at dt_X12_readCond 14 rfl) rfl ?_
      refine ev_bipush (ea_at dt_X12_readCond 15 rfl) bp_14 ?_
      refine ev_iconst (ea_at dt_X12_readCond 16 rfl) ic_0 ?_
      refine ev_clU (F1 := F_X12_emits) (fun rY mY hY => ea_runV (As := [.int 14, .int 0]) (ea_at dt_X12_readCond 17 rfl) ml_X12_194 mv_X12_emits (ok_X12_emits G 14 0 m5  rY mY hY) sh_272 rfl rfl rfl (Nat.le_of_ble_eq_true rfl) (ea_okR (by omega) (by decide))) rfl (fun r8 m7 => ?_)
      refine ev_goto (tgt := 9) (ea_at dt_X12_readCond 18 rfl) rfl ?_
      exact ev_leaf (fun h => ea_drop (l' := [some (.ref 272)]) ⟨Or.inr rfl, trivial⟩ (hC m7 h))
set_option maxHeartbeats 300000 in
theorem ok_X12_readCond (G : ea_G) (r0 : Nat) (A : ea_M → Option (Int32 × ea_M)) (hA : ∀  (m : ea_M) (r : Int32) (m1 : ea_M), A  m = some (r, m1) → ea_Met G yX12_readAtom (F_X12_readAtom r0) [.ref 272] m (0, r, m1)) (m : ea_M)  (rZ : Int32) (mZ : ea_M) (hZ : f_X12_readCond A m = some (rZ, mZ)) : ea_Met G yX12_readCond (F_X12_readCond r0) [.ref 272] m (0, rZ, mZ) := by
  refine ea_met (F := (F_X12_readCond r0)) (by decide +kernel) rfl rfl (Nat.le_of_ble_eq_true (rfl : Nat.ble _ 1 = true)) (by simp only [List.mem_cons, List.not_mem_nil, or_false]; intro v hv; rcases hv with rfl <;> rfl) ((?_ : ea_E G (F_X12_readCond r0) (0, rZ, mZ) 0 [some (.ref 272)] [] m 0 0 (f_X12_readCond A m) (fun t => t = (rZ, mZ))) (rZ, mZ) hZ rfl)
  have hR : ∀ t : Int32 × ea_M, t = (rZ, mZ) → ((0, rZ, mZ) : ea_O) = (0, t) := fun t h => by rw [h]
  unfold f_X12_readCond
  refine ev_aload_n (ea_at dt_X12_readCond 0 rfl) rfl ?_
  refine ev_clI (F1 := (F_X12_readAllOf r0)) (fun rY mY hY => ea_runV (As := []) (ea_at dt_X12_readCond 1 rfl) ml_X12_237 (mv_X12_readAllOf r0) (ok_X12_readAllOf G r0 A hA m  rY mY hY) sh_272 rfl rfl rfl (Nat.le_of_ble_eq_true rfl) (ea_okR (by omega) (by decide))) rfl (fun r2 m1 => ?_)
  refine ev_if_ne (tgt := 9) (ea_at dt_X12_readCond 2 rfl) rfl (fun _ => ?_) (fun _ => ?_)
  · refine ev_iconst (ea_at dt_X12_readCond 3 rfl) ic_0 ?_
    exact ev_zret (by decide) (ea_at dt_X12_readCond 4 rfl) rfl ⟨Nat.le_of_ble_eq_true rfl, Nat.le_of_ble_eq_true rfl⟩ (fun h => hR _ h)
  · refine ev_drop (l' := [some (.ref 272)]) ⟨Or.inr rfl, trivial⟩ ?_
    refine ev_sl (lp_X12_readCond_9 G A r0 hA  (fun t h => by obtain ⟨t1, e1, q1⟩ := h; cases e1; exact hR t q1) (fun x9s h => ?_) ea_fuel m1)
    obtain ⟨t1, e1, q1⟩ := h
    refine (?_ : ea_E G (F_X12_readCond r0) (0, rZ, mZ) 37 [none] [] x9s 0 0 _ (fun t => t = (rZ, mZ))) t1 e1 q1
    refine ev_iconst (ea_at dt_X12_readCond 19 rfl) ic_1 ?_
    exact ev_zret (by decide) (ea_at dt_X12_readCond 20 rfl) rfl ⟨Nat.le_of_ble_eq_true rfl, Nat.le_of_ble_eq_true rfl⟩ (fun h => hR _ h)
def f_X12_readAtom_j173 (A : ea_M → Option (Int32 × ea_M)) (x17 : Int32) (m18 : ea_M) : Option (Int32 × ea_M) :=
  ea_cl (f_X12_emits x17 0 m18) fun r20 m19 =>
  some (1, m19)
def f_X12_readAtom_j152 (A : ea_M → Option (Int32 × ea_M)) (x13 : Int32) (m14 : ea_M) : Option (Int32 × ea_M) :=
  ea_cl (f_X12_readSum m14) fun r16 m15 =>
  if r16 = 0 then
  some (0, m15)
  else
  if x13 = 0 then
  f_X12_readAtom_j173 A 11 m15
  else
  f_X12_readAtom_j173 A 10 m15
def g_X12_readAtom (A : ea_M → Option (Int32 × ea_M)) (m : ea_M) : Option (Int32 × ea_M) :=
  ea_cl (f_X12_sign 40 m) fun r2 m1 =>
  if r2 = 0 then
  ea_cl (f_X12_passes 65 m1) fun r4 m3 =>
  if r4 = 0 then
  ea_cl (f_X12_readTag m3) fun r6 m5 =>
  if r6 = 0 then
  ea_cl (f_X12_readSum m5) fun r8 m7 =>
  if r8 = 0 then
  some (0, m7)
  else
  ea_cl (f_X12_sign 60 m7) fun r10 m9 =>
  if r10 = 0 then
  ea_cl (f_X12_sign 62 m9) fun r12 m11 =>
  if r12 = 0 then
  some (0, m11)
  else
  f_X12_readAtom_j152 A r10 m11
  else
  f_X12_readAtom_j152 A r10 m9
  else
  some (1, m5)
  else
  ea_bd (m3 272 13) fun x21 =>
  if x21 = 6 then
  some (0, m3)
  else
  ea_bd (m3 272 13) fun x22 =>
  ea_bd (ea_st m3 272 13 (x22 + 1)) fun m23 =>
  ea_cl (A m23) fun r25 m24 =>
  if r25 = 0 then
  some (0, m24)
  else
  ea_bd (m24 272 13) fun x26 =>
  ea_bd (ea_st m24 272 13 (x26 - 1)) fun m27 =>
  ea_cl (f_X12_emits 12 0 m27) fun r29 m28 =>
  some (1, m28)
  else
  ea_bd (m1 272 13) fun x30 =>
  if x30 = 6 then
  some (0, m1)
  else
  ea_bd (m1 272 13) fun x31 =>
  ea_bd (ea_st m1 272 13 (x31 + 1)) fun m32 =>
  ea_cl (f_X12_readCond A m32) fun r34 m33 =>
  if r34 = 0 then
  some (0, m33)
  else
  ea_bd (m33 272 13) fun x35 =>
  ea_bd (ea_st m33 272 13 (x35 - 1)) fun m36 =>
  ea_cl (f_X12_sign 41 m36) fun r38 m37 =>
  ea_gz r38 (some (r38, m37))
set_option maxHeartbeats 300000 in
theorem jn_X12_readAtom_173 (G : ea_G) {res : ea_O} (A : ea_M → Option (Int32 × ea_M)) (r0 : Nat) (hA : ∀  (m : ea_M) (r : Int32) (m1 : ea_M), A  m = some (r, m1) → ea_Met G yX12_readAtom (F_X12_readAtom r0) [.ref 272] m (0, r, m1))  (x17 : Int32) (m18 : ea_M)  {Φ : (Int32 × ea_M) → Prop} (hR : ∀ t : Int32 × ea_M, Φ t → res = (0, t)) : ea_E G (F_X12_readAtom (r0 + 1)) res 173 [none, none] [.int x17, .ref 272] m18 0 0 (f_X12_readAtom_j173 A x17 m18) Φ := by
  unfold f_X12_readAtom_j173
  refine ev_iconst (ea_at dt_X12_readAtom 95 rfl) ic_0 ?_
  refine ev_clU (F1 := F_X12_emits) (fun rY mY hY => ea_runV (As := [.int x17, .int 0]) (ea_at dt_X12_readAtom 96 rfl) ml_X12_194 mv_X12_emits (ok_X12_emits G x17 0 m18  rY mY hY) sh_272 rfl rfl rfl (Nat.le_of_ble_eq_true rfl) (ea_okR (by omega) (by decide))) rfl (fun r20 m19 => ?_)
  refine ev_iconst (ea_at dt_X12_readAtom 97 rfl) ic_1 ?_
  exact ev_zret (by decide) (ea_at dt_X12_readAtom 98 rfl) rfl ⟨Nat.le_of_ble_eq_true rfl, Nat.le_of_ble_eq_true rfl⟩ (fun h => hR _ h)
set_option maxHeartbeats 300000 in
theorem jn_X12_readAtom_152 (G : ea_G) {res : ea_O} (A : ea_M → Option (Int32 × ea_M)) (r0 : Nat) (hA : ∀  (m : ea_M) (r : Int32) (m1 : ea_M), A  m = some (r, m1) → ea_Met G yX12_readAtom (F_X12_readAtom r0) [.ref 272] m (0, r, m1))  (x13 : Int32) (m14 : ea_M)  {Φ : (Int32 × ea_M) → Prop} (hR : ∀ t : Int32 × ea_M, Φ t → res = (0, t)) : ea_E G (F_X12_readAtom (r0 + 1)) res 152 [some (.ref 272), some (.int x13)] [] m14 0 0 (f_X12_readAtom_j152 A x13 m14) Φ := by
  unfold f_X12_readAtom_j152
  refine ev_aload_n (ea_at dt_X12_readAtom 84 rfl) rfl ?_
  refine ev_clI (F1 := F_X12_readSum) (fun rY mY hY => ea_runV (As := []) (ea_at dt_X12_readAtom 85 rfl) ml_X12_232 mv_X12_readSum (ok_X12_readSum G m14  rY mY hY) sh_272 rfl rfl rfl (Nat.le_of_ble_eq_true rfl) (ea_okR (by omega) (by decide))) rfl (fun r16 m15 => ?_)
  refine ev_if_ne (tgt := 161) (ea_at dt_X12_readAtom 86 rfl) rfl (fun _ => ?_) (fun _ => ?_)
  · refine ev_iconst (ea_at dt_X12_readAtom 87 rfl) ic_0 ?_
    exact ev_zret (by decide) (ea_at dt_X12_readAtom 88 rfl) rfl ⟨Nat.le_of_ble_eq_true rfl, Nat.le_of_ble_eq_true rfl⟩ (fun h => hR _ h)
  · refine ev_aload_n (ea_at dt_X12_readAtom 89 rfl) rfl ?_
    refine ev_iload_n (ea_at dt_X12_readAtom 90 rfl) rfl ?_
    refine ev_if_eq (tgt := 171) (ea_at dt_X12_readAtom 91 rfl) rfl (fun _ => ?_) (fun _ => ?_)
    · refine ev_bipush (ea_at dt_X12_readAtom 94 rfl) bp_11 ?_
      exact ev_drop (l' := [none, none]) ⟨Or.inl rfl, Or.inl rfl, trivial⟩ (jn_X12_readAtom_173 G A r0 hA 11 m15  hR)
    · refine ev_bipush (ea_at dt_X12_readAtom 92 rfl) bp_10 ?_
      refine ev_goto (tgt := 173) (ea_at dt_X12_readAtom 93 rfl) rfl ?_
      exact ev_drop (l' := [none, none]) ⟨Or.inl rfl, Or.inl rfl, trivial⟩ (jn_X12_readAtom_173 G A r0 hA 10 m15  hR)
set_option maxHeartbeats 300000 in
theorem gk_X12_readAtom (G : ea_G) (A : ea_M → Option (Int32 × ea_M)) (r0 : Nat) (hA : ∀  (m : ea_M) (r : Int32) (m1 : ea_M), A  m = some (r, m1) → ea_Met G yX12_readAtom (F_X12_readAtom r0) [.ref 272] m (0, r, m1)) (m : ea_M)  (rZ : Int32) (mZ : ea_M) (hZ : g_X12_readAtom A m = some (rZ, mZ)) : ea_Met G yX12_readAtom (F_X12_readAtom (r0 + 1)) [.ref 272] m (0, rZ, mZ) := by
  refine ea_met (F := (F_X12_readAtom (r0 + 1))) (by decide +kernel) rfl rfl (Nat.le_of_ble_eq_true (rfl : Nat.ble _ 2 = true)) (by simp only [List.mem_cons, List.not_mem_nil, or_false]; intro v hv; rcases hv with rfl <;> rfl) ((?_ : ea_E G (F_X12_readAtom (r0 + 1)) (0, rZ, mZ) 0 [some (.ref 272), none] [] m 0 0 (g_X12_readAtom A m) (fun t => t = (rZ, mZ))) (rZ, mZ) hZ rfl)
  have hR : ∀ t : Int32 × ea_M, t = (rZ, mZ) → ((0, rZ, mZ) : ea_O) = (0, t) := fun t h => by rw [h]
  unfold g_X12_readAtom
  refine ev_aload_n (ea_at dt_X12_readAtom 0 rfl) rfl ?_
  refine ev_bipush (ea_at dt_X12_readAtom 1 rfl) bp_40 ?_
  refine ev_clI (F1 := F_X12_sign) (fun rY mY hY => ea_runV (As := [.int 40]) (ea_at dt_X12_readAtom 2 rfl) ml_X12_207 mv_X12_sign (ok_X12_sign G 40 m  rY mY hY) sh_272 rfl rfl rfl (Nat.le_of_ble_eq_true rfl) (ea_okR (by omega) (by decide))) rfl (fun r2 m1 => ?_)
  refine ev_if_eq (tgt := 56) (ea_at dt_X12_readAtom 3 rfl) rfl (fun _ => ?_) (fun _ => ?_)
  · refine ev_aload_n (ea_at dt_X12_readAtom 31 rfl) rfl ?_
    refine ev_ldcS (j := 65) (ea_at dt_X12_readAtom 32 rfl) rfl ?_
    refine ev_clI (F1 := F_X12_passes) (fun rY mY hY => ea_runV (As := [.ref (1000 + 65)]) (ea_at dt_X12_readAtom 33 rfl) ml_X12_223 mv_X12_passes (ok_X12_passes G 65 m1 (by decide) rY mY hY) sh_272 rfl rfl rfl (Nat.le_of_ble_eq_true rfl) (ea_okR (by omega) (by decide))) rfl (fun r4 m3 => ?_)
    refine ev_if_eq (tgt := 114) (ea_at dt_X12_readAtom 34 rfl) rfl (fun _ => ?_) (fun _ => ?_)
    · refine ev_aload_n (ea_at dt_X12_readAtom 64 rfl) rfl ?_
      refine ev_clI (F1 := F_X12_readTag) (fun rY mY hY => ea_runV (As := []) (ea_at dt_X12_readAtom 65 rfl) ml_X12_229 mv_X12_readTag (ok_X12_readTag G m3  rY mY hY) sh_272 rfl rfl rfl (Nat.le_of_ble_eq_true rfl) (ea_okR (by omega) (by decide))) rfl (fun r6 m5 => ?_)
      refine ev_if_eq (tgt := 123) (ea_at dt_X12_readAtom 66 rfl) rfl (fun _ => ?_) (fun _ => ?_)
      · refine ev_aload_n (ea_at dt_X12_readAtom 69 rfl) rfl ?_
        refine ev_clI (F1 := F_X12_readSum) (fun rY mY hY => ea_runV (As := []) (ea_at dt_X12_readAtom 70 rfl) ml_X12_232 mv_X12_readSum (ok_X12_readSum G m5  rY mY hY) sh_272 rfl rfl rfl (Nat.le_of_ble_eq_true rfl) (ea_okR (by omega) (by decide))) rfl (fun r8 m7 => ?_)
        refine ev_if_ne (tgt := 132) (ea_at dt_X12_readAtom 71 rfl) rfl (fun _ => ?_) (fun _ => ?_)
        · refine ev_iconst (ea_at dt_X12_readAtom 72 rfl) ic_0 ?_
          exact ev_zret (by decide) (ea_at dt_X12_readAtom 73 rfl) rfl ⟨Nat.le_of_ble_eq_true rfl, Nat.le_of_ble_eq_true rfl⟩ (fun h => hR _ h)
        · refine ev_aload_n (ea_at dt_X12_readAtom 74 rfl) rfl ?_
          refine ev_bipush (ea_at dt_X12_readAtom 75 rfl) bp_60 ?_
          refine ev_clI (F1 := F_X12_sign) (fun rY mY hY => ea_runV (As := [.int 60]) (ea_at dt_X12_readAtom 76 rfl) ml_X12_207 mv_X12_sign (ok_X12_sign G 60 m7  rY mY hY) sh_272 rfl rfl rfl (Nat.le_of_ble_eq_true rfl) (ea_okR (by omega) (by decide))) rfl (fun r10 m9 => ?_)
          refine ev_istore_n (ls' := [some (.ref 272), some (.int r10)]) (ea_at dt_X12_readAtom 77 rfl) (ea_lt rfl) rfl ?_
          refine ev_iload_n (ea_at dt_X12_readAtom 78 rfl) rfl ?_
          refine ev_if_ne (tgt := 152) (ea_at dt_X12_readAtom 79 rfl) rfl (fun _ => ?_) (fun _ => ?_)
          · refine ev_aload_n (ea_at dt_X12_readAtom 80 rfl) rfl ?_
            refine ev_bipush (ea_at dt_X12_readAtom 81 rfl) bp_62 ?_
            refine ev_clI (F1 := F_X12_sign) (fun rY mY hY => ea_runV (As := [.int 62]) (ea_at dt_X12_readAtom 82 rfl) ml_X12_207 mv_X12_sign (ok_X12_sign G 62 m9  rY mY hY) sh_272 rfl rfl rfl (Nat.le_of_ble_eq_true rfl) (ea_okR (by omega) (by decide))) rfl (fun r12 m11 => ?_)
            refine ev_if_eq (tgt := 159) (ea_at dt_X12_readAtom 83 rfl) rfl (fun _ => ?_) (fun _ => ?_)
            · refine ev_iconst (ea_at dt_X12_readAtom 87 rfl) ic_0 ?_
              exact ev_zret (by decide) (ea_at dt_X12_readAtom 88 rfl) rfl ⟨Nat.le_of_ble_eq_true rfl, Nat.le_of_ble_eq_true rfl⟩ (fun h => hR _ h)
            · exact ev_drop (l' := [some (.ref 272), some (.int r10)]) ⟨Or.inr rfl, Or.inr rfl, trivial⟩ (jn_X12_readAtom_152 G A r0 hA r10 m11  hR)
          · exact ev_drop (l' := [some (.ref 272), some (.int r10)]) ⟨Or.inr rfl, Or.inr rfl, trivial⟩ (jn_X12_readAtom_152 G A r0 hA r10 m9  hR)
      · refine ev_iconst (ea_at dt_X12_readAtom 67 rfl) ic_1 ?_
        exact ev_zret (by decide) (ea_at dt_X12_readAtom 68 rfl) rfl ⟨Nat.le_of_ble_eq_true rfl, Nat.le_of_ble_eq_true rfl⟩ (fun h => hR _ h)
    · refine ev_aload_n (ea_at dt_X12_readAtom 35 rfl) rfl ?_
      refine ev_getI (ea_at dt_X12_readAtom 36 rfl) fl_X12_215 sh_272 rfl ?_
      refine ev_i (fun x21 => ?_)
      refine ev_bipush (ea_at dt_X12_readAtom 37 rfl) bp_6 ?_
      refine ev_icmp_ne (tgt := 76) (ea_at dt_X12_readAtom 38 rfl) rfl (fun _ => ?_) (fun _ => ?_)
      · refine ev_iconst (ea_at dt_X12_readAtom 39 rfl) ic_0 ?_
        exact ev_zret (by decide) (ea_at dt_X12_readAtom 40 rfl) rfl ⟨Nat.le_of_ble_eq_true rfl, Nat.le_of_ble_eq_true rfl⟩ (fun h => hR _ h)
      · refine ev_aload_n (ea_at dt_X12_readAtom 41 rfl) rfl ?_
        refine ev_dup (ea_at dt_X12_readAtom 42 rfl) rfl ?_
        refine ev_getI (ea_at dt_X12_readAtom 43 rfl) fl_X12_215 sh_272 rfl ?_
        refine ev_i (fun x22 => ?_)
        refine ev_iconst (ea_at dt_X12_readAtom 44 rfl) ic_1 ?_
        refine ev_iadd (ea_at dt_X12_readAtom 45 rfl) ?_
        refine ev_putI (ea_at dt_X12_readAtom 46 rfl) fl_X12_215 fp_12_13 sh_272 rfl ?_
        refine ev_m (fun m23 => ?_)
        refine ev_aload_n (ea_at dt_X12_readAtom 47 rfl) rfl ?_
        refine ev_clI (F1 := (F_X12_readAtom r0)) (fun rY mY hY => ea_runV (As := []) (ea_at dt_X12_readAtom 48 rfl) ml_X12_226 (mv_X12_readAtom r0) (hA m23 rY mY hY) sh_272 rfl rfl rfl (Nat.le_of_ble_eq_true rfl) (ea_okR (by omega) (by decide))) rfl (fun r25 m24 => ?_)
        refine ev_if_ne (tgt := 95) (ea_at dt_X12_readAtom 49 rfl) rfl (fun _ => ?_) (fun _ => ?_)
        · refine ev_iconst (ea_at dt_X12_readAtom 50 rfl) ic_0 ?_
          exact ev_zret (by decide) (ea_at dt_X12_readAtom 51 rfl) rfl ⟨Nat.le_of_ble_eq_true rfl, Nat.le_of_ble_eq_true rfl⟩ (fun h => hR _ h)
        · refine ev_aload_n (ea_at dt_X12_readAtom 52 rfl) rfl ?_
          refine ev_dup (ea_at dt_X12_readAtom 53 rfl) rfl ?_
          refine ev_getI (ea_at dt_X12_readAtom 54 rfl) fl_X12_215 sh_272 rfl ?_
          refine ev_i (fun x26 => ?_)
          refine ev_iconst (ea_at dt_X12_readAtom 55 rfl) ic_1 ?_
          refine ev_isub (ea_at dt_X12_readAtom 56 rfl) ?_
          refine ev_putI (ea_at dt_X12_readAtom 57 rfl) fl_X12_215 fp_12_13 sh_272 rfl ?_
          refine ev_m (fun m27 => ?_)
          refine ev_aload_n (ea_at dt_X12_readAtom 58 rfl) rfl ?_
          refine ev_bipush (ea_at dt_X12_readAtom 59 rfl) bp_12 ?_
          refine ev_iconst (ea_at dt_X12_readAtom 60 rfl) ic_0 ?_
          refine ev_clU (F1 := F_X12_emits) (fun rY mY hY => ea_runV (As := [.int 12, .int 0]) (ea_at dt_X12_readAtom 61 rfl) ml_X12_194 mv_X12_emits (ok_X12_emits G 12 0 m27  rY mY hY) sh_272 rfl rfl rfl (Nat.le_of_ble_eq_true rfl) (ea_okR (by omega) (by decide))) rfl (fun r29 m28 => ?_)
          refine ev_iconst (ea_at dt_X12_readAtom 62 rfl) ic_1 ?_
          exact ev_zret (by decide) (ea_at dt_X12_readAtom 63 rfl) rfl ⟨Nat.le_of_ble_eq_true rfl, Nat.le_of_ble_eq_true rfl⟩ (fun h => hR _ h)
  · refine ev_aload_n (ea_at dt_X12_readAtom 4 rfl) rfl ?_
    refine ev_getI (ea_at dt_X12_readAtom 5 rfl) fl_X12_215 sh_272 rfl ?_
    refine ev_i (fun x30 => ?_)
    refine ev_bipush (ea_at dt_X12_readAtom 6 rfl) bp_6 ?_
    refine ev_icmp_ne (tgt := 20) (ea_at dt_X12_readAtom 7 rfl) rfl (fun _ => ?_) (fun _ => ?_)
    · refine ev_iconst (ea_at dt_X12_readAtom 8 rfl) ic_0 ?_
      exact ev_zret (by decide) (ea_at dt_X12_readAtom 9 rfl) rfl ⟨Nat.le_of_ble_eq_true rfl, Nat.le_of_ble_eq_true rfl⟩ (fun h => hR _ h)
    · refine ev_aload_n (ea_at dt_X12_readAtom 10 rfl) rfl ?_
      refine ev_dup (ea_at dt_X12_readAtom 11 rfl) rfl ?_
      refine ev_getI (ea_at dt_X12_readAtom 12 rfl) fl_X12_215 sh_272 rfl ?_
      refine ev_i (fun x31 => ?_)
      refine ev_iconst (ea_at dt_X12_readAtom 13 rfl) ic_1 ?_
      refine ev_iadd (ea_at dt_X12_readAtom 14 rfl) ?_
      refine ev_putI (ea_at dt_X12_readAtom 15 rfl) fl_X12_215 fp_12_13 sh_272 rfl ?_
      refine ev_m (fun m32 => ?_)
      refine ev_aload_n (ea_at dt_X12_readAtom 16 rfl) rfl ?_
      refine ev_clI (F1 := (F_X12_readCond r0)) (fun rY mY hY => ea_runV (As := []) (ea_at dt_X12_readAtom 17 rfl) ml_X12_218 (mv_X12_readCond r0) (ok_X12_readCond G r0 A hA m32  rY mY hY) sh_272 rfl rfl rfl (Nat.le_of_ble_eq_true rfl) (ea_okR (by omega) (by decide))) rfl (fun r34 m33 => ?_)
      refine ev_if_ne (tgt := 39) (ea_at dt_X12_readAtom 18 rfl) rfl (fun _ => ?_) (fun _ => ?_)
      · refine ev_iconst (ea_at dt_X12_readAtom 19 rfl) ic_0 ?_
        exact ev_zret (by decide) (ea_at dt_X12_readAtom 20 rfl) rfl ⟨Nat.le_of_ble_eq_true rfl, Nat.le_of_ble_eq_true rfl⟩ (fun h => hR _ h)
      · refine ev_aload_n (ea_at dt_X12_readAtom 21 rfl) rfl ?_
        refine ev_dup (ea_at dt_X12_readAtom 22 rfl) rfl ?_
        refine ev_getI (ea_at dt_X12_readAtom 23 rfl) fl_X12_215 sh_272 rfl ?_
        refine ev_i (fun x35 => ?_)
        refine ev_iconst (ea_at dt_X12_readAtom 24 rfl) ic_1 ?_
        refine ev_isub (ea_at dt_X12_readAtom 25 rfl) ?_
        refine ev_putI (ea_at dt_X12_readAtom 26 rfl) fl_X12_215 fp_12_13 sh_272 rfl ?_
        refine ev_m (fun m36 => ?_)
        refine ev_aload_n (ea_at dt_X12_readAtom 27 rfl) rfl ?_
        refine ev_bipush (ea_at dt_X12_readAtom 28 rfl) bp_41 ?_
        refine ev_clI (F1 := F_X12_sign) (fun rY mY hY => ea_runV (As := [.int 41]) (ea_at dt_X12_readAtom 29 rfl) ml_X12_207 mv_X12_sign (ok_X12_sign G 41 m36  rY mY hY) sh_272 rfl rfl rfl (Nat.le_of_ble_eq_true rfl) (ea_okR (by omega) (by decide))) rfl (fun r38 m37 => ?_)
        exact ev_zretG (ea_at dt_X12_readAtom 30 rfl) rfl ⟨Nat.le_of_ble_eq_true rfl, Nat.le_of_ble_eq_true rfl⟩ (fun h => hR _ h)
def f_X12_readAtom : Nat → ea_M → Option (Int32 × ea_M)
  | 0 => fun _ => none
  | n + 1 => g_X12_readAtom (f_X12_readAtom n)
theorem ok_X12_readAtom (G : ea_G) : ∀ (r0 : Nat) (m : ea_M) (r : Int32) (m1 : ea_M), f_X12_readAtom r0 m = some (r, m1) → ea_Met G yX12_readAtom (F_X12_readAtom r0) [.ref 272] m (0, r, m1)
  | 0, _, _, _, h => by cases h
  | n + 1, m, r, m1, h => gk_X12_readAtom G (f_X12_readAtom n) n (fun  m r m1 h => ok_X12_readAtom G n  m r m1 h) m r m1 h
def F_X12_readLawLine : ea_F := (ea_rm 52 0 0, cX12_readLawLine, RX12, some .boolean, 3, [], 0, 0)
def D_X12_readLawLine : List (Nat × Instr × Nat) := [(0, .sipush 1332, 3), (3, .iconst 4, 1), (4, .iload_n 1, 1), (5, .imul, 1), (6, .iadd, 1), (7, .istore_n 2, 1), (8, .aload_n 0, 1), (9, .getfield 13, 3), (12, .iload_n 2, 1), (13, .aload_n 0, 1), (14, .ldc 242, 2), (16, .invokevirtual 120, 3), (19, .ifCond .eq 7, 3), (22, .iconst 0, 1), (23, .goto 43, 3), (26, .aload_n 0, 1), (27, .ldc 244, 2), (29, .invokevirtual 120, 3), (32, .ifCond .eq 7, 3), (35, .iconst 1, 1), (36, .goto 30, 3), (39, .aload_n 0, 1), (40, .ldc 154, 2), (42, .invokevirtual 120, 3), (45, .ifCond .eq 7, 3), (48, .iconst 2, 1), (49, .goto 17, 3), (52, .aload_n 0, 1), (53, .ldc 152, 2), (55, .invokevirtual 120, 3), (58, .ifCond .eq 7, 3), (61, .iconst 3, 1), (62, .goto 4, 3), (65, .iconst (-1), 1), (66, .iastore, 1), (67, .aload_n 0, 1), (68, .getfield 13, 3), (71, .iload_n 2, 1), (72, .iaload, 1), (73, .ifCond .ge 5, 3), (76, .iconst 0, 1), (77, .ireturn, 1), (78, .aload_n 0, 1), (79, .getfield 13, 3), (82, .iload_n 2, 1), (83, .iconst 1, 1), (84, .iadd, 1), (85, .aload_n 0, 1), (86, .iconst 0, 1), (87, .bipush 9, 2), (89, .invokevirtual 124, 3), (92, .iastore, 1), (93, .aload_n 0, 1), (94, .getfield 13, 3), (97, .iload_n 2, 1), (98, .iconst 1, 1), (99, .iadd, 1), (100, .iaload, 1), (101, .ifCond .ge 5, 3), (104, .iconst 0, 1), (105, .ireturn, 1), (106, .aload_n 0, 1), (107, .getfield 13, 3), (110, .iload_n 2, 1), (111, .iconst 2, 1), (112, .iadd, 1), (113, .aload_n 0, 1), (114, .getfield 191, 3), (117, .iastore, 1), (118, .aload_n 0, 1), (119, .iconst 0, 1), (120, .putfield 215, 3), (123, .aload_n 0, 1), (124, .ldc 246, 2), (126, .invokevirtual 223, 3), (129, .ifCond .eq 12, 3), (132, .aload_n 0, 1), (133, .invokevirtual 218, 3), (136, .ifCond .ne 5, 3), (139, .iconst 0, 1), (140, .ireturn, 1), (141, .aload_n 0, 1), (142, .getfield 13, 3), (145, .iload_n 2, 1), (146, .iconst 3, 1), (147, .iadd, 1), (148, .aload_n 0, 1), (149, .getfield 191, 3), (152, .iastore, 1), (153, .iconst 1, 1), (154, .ireturn, 1)]
theorem dt_X12_readLawLine : ∀ q ∈ D_X12_readLawLine, decode cX12_readLawLine q.1 = .ok q.2 := by decide +kernel
theorem mv_X12_readLawLine : ea_MV yX12_readLawLine (F_X12_readLawLine) 1 := ⟨⟨List.mem_append_right _ (List.mem_of_getElem? (i := 13) (by decide +kernel)), List.mem_append_right _ (List.mem_of_getElem? (i := 1642) (by decide +kernel)), ⟨by decide, by decide⟩, by decide +kernel⟩, List.mem_append_right _ (List.mem_of_getElem? (i := 1641) (by decide +kernel)), List.mem_append_left _ (List.mem_of_getElem? (i := 63) (by decide +kernel))⟩
def f_X12_readLawLine_j141 (x25 : Int32) (m26 : ea_M) : Option (Int32 × ea_M) :=
  ea_bd (m26 272 16) fun x27 =>
  ea_g (x25 + 3) 2180 (ea_bd (ea_st m26 273 (Int32.toNatClampNeg (x25 + 3)) x27) fun m28 =>
  some (1, m28))
def f_X12_readLawLine_j66 (x10 : Int32) (x11 : Int32) (x12 : Int32) (m13 : ea_M) : Option (Int32 × ea_M) :=
  ea_g x11 2180 (ea_bd (ea_st m13 273 (Int32.toNatClampNeg x11) x12) fun m14 =>
  ea_g x10 2180 (ea_bd (m14 273 (Int32.toNatClampNeg x10)) fun x15 =>
  if 0 ≤ x15 then
  ea_cl (f_X12_number 0 9 m14) fun r17 m16 =>
  ea_g (x10 + 1) 2180 (ea_bd (ea_st m16 273 (Int32.toNatClampNeg (x10 + 1)) r17) fun m18 =>
  ea_g (x10 + 1) 2180 (ea_bd (m18 273 (Int32.toNatClampNeg (x10 + 1))) fun x19 =>
  if 0 ≤ x19 then
  ea_bd (m18 272 16) fun x20 =>
  ea_g (x10 + 2) 2180 (ea_bd (ea_st m18 273 (Int32.toNatClampNeg (x10 + 2)) x20) fun m21 =>
  ea_bd (ea_st m21 272 13 0) fun m22 =>
  ea_cl (f_X12_passes 64 m22) fun r24 m23 =>
  if r24 = 0 then
  f_X12_readLawLine_j141 x10 m23
  else
  ea_cl (f_X12_readCond (f_X12_readAtom 8) m23) fun r30 m29 =>
  if r30 = 0 then
  some (0, m29)
  else
  f_X12_readLawLine_j141 x10 m29)
  else
  some (0, m18)))
  else
  some (0, m14)))
def f_X12_readLawLine (p1 : Int32) (m : ea_M) : Option (Int32 × ea_M) :=
  ea_bd (1332 + (4 * p1)) fun x1 =>
  ea_cl (f_X12_isWord 62 m) fun r3 m2 =>
  if r3 = 0 then
  ea_cl (f_X12_isWord 63 m2) fun r5 m4 =>
  if r5 = 0 then
  ea_cl (f_X12_isWord 60 m4) fun r7 m6 =>
  if r7 = 0 then
  ea_cl (f_X12_isWord 59 m6) fun r9 m8 =>
  if r9 = 0 then
  f_X12_readLawLine_j66 x1 x1 (-1) m8
  else
  f_X12_readLawLine_j66 x1 x1 3 m8
  else
  f_X12_readLawLine_j66 x1 x1 2 m6
  else
  f_X12_readLawLine_j66 x1 x1 1 m4
  else
  f_X12_readLawLine_j66 x1 x1 0 m2
set_option maxHeartbeats 300000 in
theorem jn_X12_readLawLine_141 (G : ea_G) {res : ea_O}  (x25 : Int32) (m26 : ea_M)  {Φ : (Int32 × ea_M) → Prop} (hR : ∀ t : Int32 × ea_M, Φ t → res = (0, t)) : ea_E G F_X12_readLawLine res 141 [some (.ref 272), none, some (.int x25)] [] m26 0 0 (f_X12_readLawLine_j141 x25 m26) Φ := by
  unfold f_X12_readLawLine_j141
  refine ev_aload_n (ea_at dt_X12_readLawLine 81 rfl) rfl ?_
  refine ev_getR (ea_at dt_X12_readLawLine 82 rfl) fl_X12_13 sh_272 rfl ?_
  refine ev_iload_n (ea_at dt_X12_readLawLine 83 rfl) rfl ?_
  refine ev_iconst (ea_at dt_X12_readLawLine 84 rfl) ic_3 ?_
  refine ev_iadd (ea_at dt_X12_readLawLine 85 rfl) ?_
  refine ev_aload_n (ea_at dt_X12_readLawLine 86 rfl) rfl ?_
  refine ev_getI (ea_at dt_X12_readLawLine 87 rfl) fl_X12_191 sh_272 rfl ?_
  refine ev_i (fun x27 => ?_)
  refine ev_iastore (ea_at dt_X12_readLawLine 88 rfl) sh_273 (by decide) ?_
  refine ev_m (fun m28 => ?_)
  refine ev_iconst (ea_at dt_X12_readLawLine 89 rfl) ic_1 ?_
  exact ev_zret (by decide) (ea_at dt_X12_readLawLine 90 rfl) rfl ⟨by decide, by decide⟩ (fun h => hR _ h)
set_option maxHeartbeats 300000 in
theorem jn_X12_readLawLine_66 (G : ea_G) {res : ea_O}  (x10 : Int32) (x11 : Int32) (x12 : Int32) (m13 : ea_M)  {Φ : (Int32 × ea_M) → Prop} (hR : ∀ t : Int32 × ea_M, Φ t → res = (0, t)) : ea_E G F_X12_readLawLine res 66 [some (.ref 272), none, some (.int x10)] [.int x12, .int x11, .ref 273] m13 0 0 (f_X12_readLawLine_j66 x10 x11 x12 m13) Φ := by
  unfold f_X12_readLawLine_j66
  refine ev_iastore (ea_at dt_X12_readLawLine 34 rfl) sh_273 (by decide) ?_
  refine ev_m (fun m14 => ?_)
  refine ev_aload_n (ea_at dt_X12_readLawLine 35 rfl) rfl ?_
  refine ev_getR (ea_at dt_X12_readLawLine 36 rfl) fl_X12_13 sh_272 rfl ?_
  refine ev_iload_n (ea_at dt_X12_readLawLine 37 rfl) rfl ?_
  refine ev_iaload (ea_at dt_X12_readLawLine 38 rfl) sh_273 (by decide) ?_
  refine ev_i (fun x15 => ?_)
  refine ev_if_ge (tgt := 78) (ea_at dt_X12_readLawLine 39 rfl) rfl (fun _ => ?_) (fun _ => ?_)
  · refine ev_aload_n (ea_at dt_X12_readLawLine 42 rfl) rfl ?_
    refine ev_getR (ea_at dt_X12_readLawLine 43 rfl) fl_X12_13 sh_272 rfl ?_
    refine ev_iload_n (ea_at dt_X12_readLawLine 44 rfl) rfl ?_
    refine ev_iconst (ea_at dt_X12_readLawLine 45 rfl) ic_1 ?_
    refine ev_iadd (ea_at dt_X12_readLawLine 46 rfl) ?_
    refine ev_aload_n (ea_at dt_X12_readLawLine 47 rfl) rfl ?_
    refine ev_iconst (ea_at dt_X12_readLawLine 48 rfl) ic_0 ?_
    refine ev_bipush (ea_at dt_X12_readLawLine 49 rfl) bp_9 ?_
    refine ev_clI (F1 := F_X12_number) (fun rY mY hY => ea_runV (As := [.int 0, .int 9]) (ea_at dt_X12_readLawLine 50 rfl) ml_X12_124 mv_X12_number (ok_X12_number G 0 9 m14  rY mY hY) sh_272 rfl rfl rfl (Nat.le_of_ble_eq_true rfl) rfl) rfl (fun r17 m16 => ?_)
    refine ev_iastore (ea_at dt_X12_readLawLine 51 rfl) sh_273 (by decide) ?_
    refine ev_m (fun m18 => ?_)
    refine ev_aload_n (ea_at dt_X12_readLawLine 52 rfl) rfl ?_
    refine ev_getR (ea_at dt_X12_readLawLine 53 rfl) fl_X12_13 sh_272 rfl ?_
    refine ev_iload_n (ea_at dt_X12_readLawLine 54 rfl) rfl ?_
    refine ev_iconst (ea_at dt_X12_readLawLine 55 rfl) ic_1 ?_
    refine ev_iadd (ea_at dt_X12_readLawLine 56 rfl) ?_
    refine ev_iaload (ea_at dt_X12_readLawLine 57 rfl) sh_273 (by decide) ?_
    refine ev_i (fun x19 => ?_)
    refine ev_if_ge (tgt := 106) (ea_at dt_X12_readLawLine 58 rfl) rfl (fun _ => ?_) (fun _ => ?_)
    · refine ev_aload_n (ea_at dt_X12_readLawLine 61 rfl) rfl ?_
      refine ev_getR (ea_at dt_X12_readLawLine 62 rfl) fl_X12_13 sh_272 rfl ?_
      refine ev_iload_n (ea_at dt_X12_readLawLine 63 rfl) rfl ?_
      refine ev_iconst (ea_at dt_X12_readLawLine 64 rfl) ic_2 ?_
      refine ev_iadd (ea_at dt_X12_readLawLine 65 rfl) ?_
      refine ev_aload_n (ea_at dt_X12_readLawLine 66 rfl) rfl ?_
      refine ev_getI (ea_at dt_X12_readLawLine 67 rfl) fl_X12_191 sh_272 rfl ?_
      refine ev_i (fun x20 => ?_)
      refine ev_iastore (ea_at dt_X12_readLawLine 68 rfl) sh_273 (by decide) ?_
      refine ev_m (fun m21 => ?_)
      refine ev_aload_n (ea_at dt_X12_readLawLine 69 rfl) rfl ?_
      refine ev_iconst (ea_at dt_X12_readLawLine 70 rfl) ic_0 ?_
      refine ev_putI (ea_at dt_X12_readLawLine 71 rfl) fl_X12_215 fp_12_13 sh_272 rfl ?_
      refine ev_m (fun m22 => ?_)
      refine ev_aload_n (ea_at dt_X12_readLawLine 72 rfl) rfl ?_
      refine ev_ldcS (j := 64) (ea_at dt_X12_readLawLine 73 rfl) rfl ?_
      refine ev_clI (F1 := F_X12_passes) (fun rY mY hY => ea_runV (As := [.ref (1000 + 64)]) (ea_at dt_X12_readLawLine 74 rfl) ml_X12_223 mv_X12_passes (ok_X12_passes G 64 m22 (by decide) rY mY hY) sh_272 rfl rfl rfl (Nat.le_of_ble_eq_true rfl) rfl) rfl (fun r24 m23 => ?_)
      refine ev_if_eq (tgt := 141) (ea_at dt_X12_readLawLine 75 rfl) rfl (fun _ => ?_) (fun _ => ?_)
      · exact ev_drop (l' := [some (.ref 272), none, some (.int x10)]) ⟨Or.inr rfl, Or.inl rfl, Or.inr rfl, trivial⟩ (jn_X12_readLawLine_141 G x10 m23  hR)
      · refine ev_aload_n (ea_at dt_X12_readLawLine 76 rfl) rfl ?_
        refine ev_clI (F1 := (F_X12_readCond 8)) (fun rY mY hY => ea_runV (As := []) (ea_at dt_X12_readLawLine 77 rfl) ml_X12_218 (mv_X12_readCond 8) (ok_X12_readCond G 8 _ (ok_X12_readAtom G 8) m23  rY mY hY) sh_272 rfl rfl rfl (Nat.le_of_ble_eq_true rfl) rfl) rfl (fun r30 m29 => ?_)
        refine ev_if_ne (tgt := 141) (ea_at dt_X12_readLawLine 78 rfl) rfl (fun _ => ?_) (fun _ => ?_)
        · refine ev_iconst (ea_at dt_X12_readLawLine 79 rfl) ic_0 ?_
          exact ev_zret (by decide) (ea_at dt_X12_readLawLine 80 rfl) rfl ⟨by decide, by decide⟩ (fun h => hR _ h)
        · exact ev_drop (l' := [some (.ref 272), none, some (.int x10)]) ⟨Or.inr rfl, Or.inl rfl, Or.inr rfl, trivial⟩ (jn_X12_readLawLine_141 G x10 m29  hR)
    · refine ev_iconst (ea_at dt_X12_readLawLine 59 rfl) ic_0 ?_
      exact ev_zret (by decide) (ea_at dt_X12_readLawLine 60 rfl) rfl ⟨by decide, by decide⟩ (fun h => hR _ h)
  · refine ev_iconst (ea_at dt_X12_readLawLine 40 rfl) ic_0 ?_
    exact ev_zret (by decide) (ea_at dt_X12_readLawLine 41 rfl) rfl ⟨by decide, by decide⟩ (fun h => hR _ h)
set_option maxHeartbeats 300000 in
theorem ok_X12_readLawLine (G : ea_G) (p1 : Int32) (m : ea_M)  (rZ : Int32) (mZ : ea_M) (hZ : f_X12_readLawLine p1 m = some (rZ, mZ)) : ea_Met G yX12_readLawLine F_X12_readLawLine [.ref 272, .int p1] m (0, rZ, mZ) := by
  refine ea_met (F := F_X12_readLawLine) (by decide +kernel) rfl rfl (Nat.le_of_ble_eq_true rfl) (by simp only [List.mem_cons, List.not_mem_nil, or_false]; intro v hv; rcases hv with rfl | rfl <;> rfl) ((?_ : ea_E G F_X12_readLawLine (0, rZ, mZ) 0 [some (.ref 272), some (.int p1), none] [] m 0 0 (f_X12_readLawLine p1 m) (fun t => t = (rZ, mZ))) (rZ, mZ) hZ rfl)
  have hR : ∀ t : Int32 × ea_M, t = (rZ, mZ) → ((0, rZ, mZ) : ea_O) = (0, t) := fun t h => by rw [h]
  unfold f_X12_readLawLine
  refine ev_sipush (ea_at dt_X12_readLawLine 0 rfl) sp_1332 ?_
  refine ev_iconst (ea_at dt_X12_readLawLine 1 rfl) ic_4 ?_
  refine ev_iload_n (ea_at dt_X12_readLawLine 2 rfl) rfl ?_
  refine ev_imul (ea_at dt_X12_readLawLine 3 rfl) ?_
  refine ev_iadd (ea_at dt_X12_readLawLine 4 rfl) ?_
  refine ev_i (fun x1 => ?_)
  refine ev_istore_n (ls' := [some (.ref 272), some (.int p1), some (.int x1)]) (ea_at dt_X12_readLawLine 5 rfl) (ea_lt rfl) rfl ?_
  refine ev_aload_n (ea_at dt_X12_readLawLine 6 rfl) rfl ?_
  refine ev_getR (ea_at dt_X12_readLawLine 7 rfl) fl_X12_13 sh_272 rfl ?_
  refine ev_iload_n (ea_at dt_X12_readLawLine 8 rfl) rfl ?_
  refine ev_aload_n (ea_at dt_X12_readLawLine 9 rfl) rfl ?_
  refine ev_ldcS (j := 62) (ea_at dt_X12_readLawLine 10 rfl) rfl ?_
  refine ev_clI (F1 := F_X12_isWord) (fun rY mY hY => ea_runV (As := [.ref (1000 + 62)]) (ea_at dt_X12_readLawLine 11 rfl) ml_X12_120 mv_X12_isWord (ok_X12_isWord G 62 m (by decide) rY mY hY) sh_272 rfl rfl rfl (Nat.le_of_ble_eq_true rfl) rfl) rfl (fun r3 m2 => ?_)
  refine ev_if_eq (tgt := 26) (ea_at dt_X12_readLawLine 12 rfl) rfl (fun _ => ?_) (fun _ => ?_)
  · refine ev_aload_n (ea_at dt_X12_readLawLine 15 rfl) rfl ?_
    refine ev_ldcS (j := 63) (ea_at dt_X12_readLawLine 16 rfl) rfl ?_
    refine ev_clI (F1 := F_X12_isWord) (fun rY mY hY => ea_runV (As := [.ref (1000 + 63)]) (ea_at dt_X12_readLawLine 17 rfl) ml_X12_120 mv_X12_isWord (ok_X12_isWord G 63 m2 (by decide) rY mY hY) sh_272 rfl rfl rfl (Nat.le_of_ble_eq_true rfl) rfl) rfl (fun r5 m4 => ?_)
    refine ev_if_eq (tgt := 39) (ea_at dt_X12_readLawLine 18 rfl) rfl (fun _ => ?_) (fun _ => ?_)
    · refine ev_aload_n (ea_at dt_X12_readLawLine 21 rfl) rfl ?_
      refine ev_ldcS (j := 60) (ea_at dt_X12_readLawLine 22 rfl) rfl ?_
      refine ev_clI (F1 := F_X12_isWord) (fun rY mY hY => ea_runV (As := [.ref (1000 + 60)]) (ea_at dt_X12_readLawLine 23 rfl) ml_X12_120 mv_X12_isWord (ok_X12_isWord G 60 m4 (by decide) rY mY hY) sh_272 rfl rfl rfl (Nat.le_of_ble_eq_true rfl) rfl) rfl (fun r7 m6 => ?_)
      refine ev_if_eq (tgt := 52) (ea_at dt_X12_readLawLine 24 rfl) rfl (fun _ => ?_) (fun _ => ?_)
      · refine ev_aload_n (ea_at dt_X12_readLawLine 27 rfl) rfl ?_
        refine ev_ldcS (j := 59) (ea_at dt_X12_readLawLine 28 rfl) rfl ?_
        refine ev_clI (F1 := F_X12_isWord) (fun rY mY hY => ea_runV (As := [.ref (1000 + 59)]) (ea_at dt_X12_readLawLine 29 rfl) ml_X12_120 mv_X12_isWord (ok_X12_isWord G 59 m6 (by decide) rY mY hY) sh_272 rfl rfl rfl (Nat.le_of_ble_eq_true rfl) rfl) rfl (fun r9 m8 => ?_)
        refine ev_if_eq (tgt := 65) (ea_at dt_X12_readLawLine 30 rfl) rfl (fun _ => ?_) (fun _ => ?_)
        · refine ev_iconst (ea_at dt_X12_readLawLine 33 rfl) ic_m1 ?_
          exact ev_drop (l' := [some (.ref 272), none, some (.int x1)]) ⟨Or.inr rfl, Or.inl rfl, Or.inr rfl, trivial⟩ (jn_X12_readLawLine_66 G x1 x1 (-1) m8  hR)
        · refine ev_iconst (ea_at dt_X12_readLawLine 31 rfl) ic_3 ?_
          refine ev_goto (tgt := 66) (ea_at dt_X12_readLawLine 32 rfl) rfl ?_
          exact ev_drop (l' := [some (.ref 272), none, some (.int x1)]) ⟨Or.inr rfl, Or.inl rfl, Or.inr rfl, trivial⟩ (jn_X12_readLawLine_66 G x1 x1 3 m8  hR)
      · refine ev_iconst (ea_at dt_X12_readLawLine 25 rfl) ic_2 ?_
        refine ev_goto (tgt := 66) (ea_at dt_X12_readLawLine 26 rfl) rfl ?_
        exact ev_drop (l' := [some (.ref 272), none, some (.int x1)]) ⟨Or.inr rfl, Or.inl rfl, Or.inr rfl, trivial⟩ (jn_X12_readLawLine_66 G x1 x1 2 m6  hR)
    · refine ev_iconst (ea_at dt_X12_readLawLine 19 rfl) ic_1 ?_
      refine ev_goto (tgt := 66) (ea_at dt_X12_readLawLine 20 rfl) rfl ?_
      exact ev_drop (l' := [some (.ref 272), none, some (.int x1)]) ⟨Or.inr rfl, Or.inl rfl, Or.inr rfl, trivial⟩ (jn_X12_readLawLine_66 G x1 x1 1 m4  hR)
  · refine ev_iconst (ea_at dt_X12_readLawLine 13 rfl) ic_0 ?_
    refine ev_goto (tgt := 66) (ea_at dt_X12_readLawLine 14 rfl) rfl ?_
    exact ev_drop (l' := [some (.ref 272), none, some (.int x1)]) ⟨Or.inr rfl, Or.inl rfl, Or.inr rfl, trivial⟩ (jn_X12_readLawLine_66 G x1 x1 0 m2  hR)
def F_X12_readLine : ea_F := (ea_rm 53 0 0, cX12_readLine, RX12, some .boolean, 3, [], 0, 0)
def D_X12_readLine : List (Nat × Instr × Nat) := [(0, .aload_n 0, 1), (1, .invokevirtual 117, 3), (4, .iload_n 2, 1), (5, .iload_n 1, 1), (6, .ifCond .eq 8, 3), (9, .bipush 14, 2), (11, .goto 5, 3), (14, .bipush 12, 2), (16, .if_icmp .ge 29, 3), (19, .iload_n 1, 1), (20, .ifCond .eq 13, 3), (23, .aload_n 0, 1), (24, .invokevirtual 248, 3), (27, .ifCond .eq 18, 3), (30, .goto 11, 3), (33, .aload_n 0, 1), (34, .iload_n 2, 1), (35, .invokevirtual 251, 3), (38, .ifCond .eq 7, 3), (41, .iconst 1, 1), (42, .goto 4, 3), (45, .iconst 0, 1), (46, .ireturn, 1)]
theorem dt_X12_readLine : ∀ q ∈ D_X12_readLine, decode cX12_readLine q.1 = .ok q.2 := by decide +kernel
theorem mv_X12_readLine : ea_MV yX12_readLine (F_X12_readLine) 2 := ⟨⟨List.mem_append_right _ (List.mem_of_getElem? (i := 13) (by decide +kernel)), List.mem_append_right _ (List.mem_of_getElem? (i := 1544) (by decide +kernel)), ⟨by decide, by decide⟩, by decide +kernel⟩, List.mem_append_right _ (List.mem_of_getElem? (i := 1543) (by decide +kernel)), List.mem_append_left _ (List.mem_of_getElem? (i := 46) (by decide +kernel))⟩
def f_X12_readLine_j41 (m8 : ea_M) : Option (Int32 × ea_M) :=
  some (1, m8)
def f_X12_readLine_j16 (p1 : Int32) (p2 : Int32) (x3 : Int32) (x4 : Int32) (m5 : ea_M) : Option (Int32 × ea_M) :=
  if x4 ≤ x3 then
  some (0, m5)
  else
  if p1 = 0 then
  ea_cl (f_X12_readLawLine p2 m5) fun r7 m6 =>
  if r7 = 0 then
  some (0, m6)
  else
  f_X12_readLine_j41 m6
  else
  ea_cl (f_X12_readCourtLine m5) fun r10 m9 =>
  if r10 = 0 then
  some (0, m9)
  else
  f_X12_readLine_j41 m9
def f_X12_readLine (p1 : Int32) (p2 : Int32) (m : ea_M) : Option (Int32 × ea_M) :=
  ea_cl (f_X12_letters m) fun r2 m1 =>
  if p1 = 0 then
  f_X12_readLine_j16 p1 p2 p2 12 m1
  else
  f_X12_readLine_j16 p1 p2 p2 14 m1
set_option maxHeartbeats 300000 in
theorem jn_X12_readLine_41 (G : ea_G) {res : ea_O}  (m8 : ea_M)  {Φ : (Int32 × ea_M) → Prop} (hR : ∀ t : Int32 × ea_M, Φ t → res = (0, t)) : ea_E G F_X12_readLine res 41 [none, none, none] [] m8 0 0 (f_X12_readLine_j41 m8) Φ := by
  unfold f_X12_readLine_j41
  refine ev_iconst (ea_at dt_X12_readLine 19 rfl) ic_1 ?_
  refine ev_goto (tgt := 46) (ea_at dt_X12_readLine 20 rfl) rfl ?_
  exact ev_zret (by decide) (ea_at dt_X12_readLine 22 rfl) rfl ⟨by decide, by decide⟩ (fun h => hR _ h)
set_option maxHeartbeats 300000 in
theorem jn_X12_readLine_16 (G : ea_G) {res : ea_O}  (p1 : Int32) (p2 : Int32) (x3 : Int32) (x4 : Int32) (m5 : ea_M)  {Φ : (Int32 × ea_M) → Prop} (hR : ∀ t : Int32 × ea_M, Φ t → res = (0, t)) : ea_E G F_X12_readLine res 16 [some (.ref 272), some (.int p1), some (.int p2)] [.int x4, .int x3] m5 0 0 (f_X12_readLine_j16 p1 p2 x3 x4 m5) Φ := by
  unfold f_X12_readLine_j16
  refine ev_icmp_ge (tgt := 45) (ea_at dt_X12_readLine 8 rfl) rfl (fun _ => ?_) (fun _ => ?_)
  · refine ev_iconst (ea_at dt_X12_readLine 21 rfl) ic_0 ?_
    exact ev_zret (by decide) (ea_at dt_X12_readLine 22 rfl) rfl ⟨by decide, by decide⟩ (fun h => hR _ h)
  · refine ev_iload_n (ea_at dt_X12_readLine 9 rfl) rfl ?_
    refine ev_if_eq (tgt := 33) (ea_at dt_X12_readLine 10 rfl) rfl (fun _ => ?_) (fun _ => ?_)
    · refine ev_aload_n (ea_at dt_X12_readLine 15 rfl) rfl ?_
      refine ev_iload_n (ea_at dt_X12_readLine 16 rfl) rfl ?_
      refine ev_clI (F1 := F_X12_readLawLine) (fun rY mY hY => ea_runV (As := [.int p2]) (ea_at dt_X12_readLine 17 rfl) ml_X12_251 mv_X12_readLawLine (ok_X12_readLawLine G p2 m5  rY mY hY) sh_272 rfl rfl rfl (Nat.le_of_ble_eq_true rfl) rfl) rfl (fun r7 m6 => ?_)
      refine ev_if_eq (tgt := 45) (ea_at dt_X12_readLine 18 rfl) rfl (fun _ => ?_) (fun _ => ?_)
      · refine ev_iconst (ea_at dt_X12_readLine 21 rfl) ic_0 ?_
        exact ev_zret (by decide) (ea_at dt_X12_readLine 22 rfl) rfl ⟨by decide, by decide⟩ (fun h => hR _ h)
      · exact ev_drop (l' := [none, none, none]) ⟨Or.inl rfl, Or.inl rfl, Or.inl rfl, trivial⟩ (jn_X12_readLine_41 G m6  hR)
    · refine ev_aload_n (ea_at dt_X12_readLine 11 rfl) rfl ?_
      refine ev_clI (F1 := F_X12_readCourtLine) (fun rY mY hY => ea_runV (As := []) (ea_at dt_X12_readLine 12 rfl) ml_X12_248 mv_X12_readCourtLine (ok_X12_readCourtLine G m5  rY mY hY) sh_272 rfl rfl rfl (Nat.le_of_ble_eq_true rfl) rfl) rfl (fun r10 m9 => ?_)
      refine ev_if_eq (tgt := 45) (ea_at dt_X12_readLine 13 rfl) rfl (fun _ => ?_) (fun _ => ?_)
      · refine ev_iconst (ea_at dt_X12_readLine 21 rfl) ic_0 ?_
        exact ev_zret (by decide) (ea_at dt_X12_readLine 22 rfl) rfl ⟨by decide, by decide⟩ (fun h => hR _ h)
      · refine ev_goto (tgt := 41) (ea_at dt_X12_readLine 14 rfl) rfl ?_
        exact ev_drop (l' := [none, none, none]) ⟨Or.inl rfl, Or.inl rfl, Or.inl rfl, trivial⟩ (jn_X12_readLine_41 G m9  hR)
set_option maxHeartbeats 300000 in
theorem ok_X12_readLine (G : ea_G) (p1 : Int32) (p2 : Int32) (m : ea_M)  (rZ : Int32) (mZ : ea_M) (hZ : f_X12_readLine p1 p2 m = some (rZ, mZ)) : ea_Met G yX12_readLine F_X12_readLine [.ref 272, .int p1, .int p2] m (0, rZ, mZ) := by
  refine ea_met (F := F_X12_readLine) (by decide +kernel) rfl rfl (Nat.le_of_ble_eq_true rfl) (by simp only [List.mem_cons, List.not_mem_nil, or_false]; intro v hv; rcases hv with rfl | rfl | rfl <;> rfl) ((?_ : ea_E G F_X12_readLine (0, rZ, mZ) 0 [some (.ref 272), some (.int p1), some (.int p2)] [] m 0 0 (f_X12_readLine p1 p2 m) (fun t => t = (rZ, mZ))) (rZ, mZ) hZ rfl)
  have hR : ∀ t : Int32 × ea_M, t = (rZ, mZ) → ((0, rZ, mZ) : ea_O) = (0, t) := fun t h => by rw [h]
  unfold f_X12_readLine
  refine ev_aload_n (ea_at dt_X12_readLine 0 rfl) rfl ?_
  refine ev_clU (F1 := F_X12_letters) (fun rY mY hY => ea_runV (As := []) (ea_at dt_X12_readLine 1 rfl) ml_X12_117 mv_X12_letters (ok_X12_letters G m  rY mY hY) sh_272 rfl rfl rfl (Nat.le_of_ble_eq_true rfl) rfl) rfl (fun r2 m1 => ?_)
  refine ev_iload_n (ea_at dt_X12_readLine 2 rfl) rfl ?_
  refine ev_iload_n (ea_at dt_X12_readLine 3 rfl) rfl ?_
  refine ev_if_eq (tgt := 14) (ea_at dt_X12_readLine 4 rfl) rfl (fun _ => ?_) (fun _ => ?_)
  · refine ev_bipush (ea_at dt_X12_readLine 7 rfl) bp_12 ?_
    exact ev_drop (l' := [some (.ref 272), some (.int p1), some (.int p2)]) ⟨Or.inr rfl, Or.inr rfl, Or.inr rfl, trivial⟩ (jn_X12_readLine_16 G p1 p2 p2 12 m1  hR)
  · refine ev_bipush (ea_at dt_X12_readLine 5 rfl) bp_14 ?_
    refine ev_goto (tgt := 16) (ea_at dt_X12_readLine 6 rfl) rfl ?_
    exact ev_drop (l' := [some (.ref 272), some (.int p1), some (.int p2)]) ⟨Or.inr rfl, Or.inr rfl, Or.inr rfl, trivial⟩ (jn_X12_readLine_16 G p1 p2 p2 14 m1  hR)
