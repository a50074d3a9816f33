def F_X12_count : ea_F := (ea_rm 12 0 0, cX12_count, RX12, some .int, 2, [], 0, 0)
def D_X12_count : List (Nat × Instr × Nat) := [(0, .aload_n 0, 1), (1, .iconst 0, 1), (2, .putfield 3, 3), (5, .iload_n 1, 1), (6, .tableswitch 150 0 14 #[74, 79, 84, 89, 96, 150, 150, 150, 150, 150, 150, 119, 124, 137, 145], 74), (80, .aload_n 0, 1), (81, .invokevirtual 74, 3), (84, .ireturn, 1), (85, .aload_n 0, 1), (86, .invokevirtual 82, 3), (89, .ireturn, 1), (90, .aload_n 0, 1), (91, .invokevirtual 85, 3), (94, .ireturn, 1), (95, .aload_n 0, 1), (96, .getfield 13, 3), (99, .iconst 3, 1), (100, .iaload, 1), (101, .ireturn, 1), (102, .aload_n 0, 1), (103, .getfield 13, 3), (106, .iconst 4, 1), (107, .iaload, 1), (108, .iconst 1, 1), (109, .if_icmp .ne 14, 3), (112, .aload_n 0, 1), (113, .getfield 13, 3), (116, .sipush 482, 3), (119, .iaload, 1), (120, .goto 4, 3), (123, .iconst (-1), 1), (124, .ireturn, 1), (125, .aload_n 0, 1), (126, .invokevirtual 462, 3), (129, .ireturn, 1), (130, .aload_n 0, 1), (131, .invokevirtual 465, 3), (134, .ifCond .eq 7, 3), (137, .iconst 1, 1), (138, .goto 4, 3), (141, .iconst 0, 1), (142, .ireturn, 1), (143, .aload_n 0, 1), (144, .getfield 13, 3), (147, .bipush 11, 2), (149, .iaload, 1), (150, .ireturn, 1), (151, .aload_n 0, 1), (152, .getfield 64, 3), (155, .ireturn, 1), (156, .iload_n 1, 1), (157, .iconst 5, 1), (158, .bipush 10, 2), (160, .invokestatic 78, 3), (163, .ifCond .eq 12, 3), (166, .aload_n 0, 1), (167, .getfield 13, 3), (170, .iload_n 1, 1), (171, .iaload, 1), (172, .goto 4, 3), (175, .iconst (-1), 1), (176, .ireturn, 1)]
theorem dt_X12_count : ∀ q ∈ D_X12_count, decode cX12_count q.1 = .ok q.2 := by decide +kernel
theorem mv_X12_count : ea_MV yX12_count (F_X12_count) 1 := ⟨⟨List.mem_append_right _ (List.mem_of_getElem? (i := 13) (by decide +kernel)), List.mem_append_right _ (List.mem_of_getElem? (i := 2046) (by decide +kernel)), ⟨by decide, by decide⟩, by decide +kernel⟩, List.mem_append_right _ (List.mem_of_getElem? (i := 2044) (by decide +kernel)), List.mem_append_right _ (List.mem_of_getElem? (i := 2045) (by decide +kernel))⟩
def f_X12_count_j156 (p1 : Int32) (m11 : ea_M) : Option (Int32 × ea_M) :=
  ea_cl (f_X12_in p1 5 10 m11) fun r13 m12 =>
  if r13 = 0 then
  some ((-1), m12)
  else
  ea_g p1 2180 (ea_bd (m12 273 (Int32.toNatClampNeg p1)) fun x14 =>
  some (x14, m12))
def f_X12_count (p1 : Int32) (m : ea_M) : Option (Int32 × ea_M) :=
  ea_bd (ea_st m 272 0 0) fun m1 =>
  if p1 = 0 then
  ea_cl (f_X12_birds m1) fun r3 m2 =>
  some (r3, m2)
  else
  if p1 = 1 then
  ea_cl (f_X12_counsel m1) fun r5 m4 =>
  some (r5, m4)
  else
  if p1 = 2 then
  ea_cl (f_X12_cases m1) fun r7 m6 =>
  some (r7, m6)
  else
  if p1 = 3 then
  ea_bd (m1 273 3) fun x8 =>
  some (x8, m1)
  else
  if p1 = 4 then
  ea_bd (m1 273 4) fun x9 =>
  if x9 = 1 then
  ea_bd (m1 273 482) fun x10 =>
  some (x10, m1)
  else
  some ((-1), m1)
  else
  if p1 = 5 then
  f_X12_count_j156 p1 m1
  else
  if p1 = 6 then
  f_X12_count_j156 p1 m1
  else
  if p1 = 7 then
  f_X12_count_j156 p1 m1
  else
  if p1 = 8 then
  f_X12_count_j156 p1 m1
  else
  if p1 = 9 then
  f_X12_count_j156 p1 m1
  else
  if p1 = 10 then
  f_X12_count_j156 p1 m1
  else
  if p1 = 11 then
  ea_cl (f_X12_openOnes m1) fun r16 m15 =>
  some (r16, m15)
  else
  if p1 = 12 then
  ea_cl (f_X12_isCalm m1) fun r18 m17 =>
  if r18 = 0 then
  some (0, m17)
  else
  some (1, m17)
  else
  if p1 = 13 then
  ea_bd (m1 273 11) fun x19 =>
  some (x19, m1)
  else
  if p1 = 14 then
  ea_bd (m1 272 7) fun x20 =>
  some (x20, m1)
  else
  f_X12_count_j156 p1 m1
set_option maxHeartbeats 300000 in
theorem jn_X12_count_156 (G : ea_G) {res : ea_O}  (p1 : Int32) (m11 : ea_M)  {Φ : (Int32 × ea_M) → Prop} (hR : ∀ t : Int32 × ea_M, Φ t → res = (0, t)) : ea_E G F_X12_count res 156 [some (.ref 272), some (.int p1)] [] m11 0 0 (f_X12_count_j156 p1 m11) Φ := by
  unfold f_X12_count_j156
  refine ev_iload_n (ea_at dt_X12_count 50 rfl) rfl ?_
  refine ev_iconst (ea_at dt_X12_count 51 rfl) ic_5 ?_
  refine ev_bipush (ea_at dt_X12_count 52 rfl) bp_10 ?_
  refine ev_clI (F1 := F_X12_in) (fun rY mY hY => ea_runS (As := [.int p1, .int 5, .int 10]) (ea_at dt_X12_count 53 rfl) ml_X12_78 mv_X12_in (ok_X12_in G p1 5 10 m11  rY mY hY) rfl rfl (Nat.le_of_ble_eq_true rfl) rfl) rfl (fun r13 m12 => ?_)
  refine ev_if_eq (tgt := 175) (ea_at dt_X12_count 54 rfl) rfl (fun _ => ?_) (fun _ => ?_)
  · refine ev_iconst (ea_at dt_X12_count 60 rfl) ic_m1 ?_
    exact ev_iret (ea_at dt_X12_count 61 rfl) rfl ⟨by decide, by decide⟩ (fun h => hR _ h)
  · refine ev_aload_n (ea_at dt_X12_count 55 rfl) rfl ?_
    refine ev_getR (ea_at dt_X12_count 56 rfl) fl_X12_13 sh_272 rfl ?_
    refine ev_iload_n (ea_at dt_X12_count 57 rfl) rfl ?_
    refine ev_iaload (ea_at dt_X12_count 58 rfl) sh_273 (by decide) ?_
    refine ev_i (fun x14 => ?_)
    refine ev_goto (tgt := 176) (ea_at dt_X12_count 59 rfl) rfl ?_
    exact ev_iret (ea_at dt_X12_count 61 rfl) rfl ⟨by decide, by decide⟩ (fun h => hR _ h)
set_option maxHeartbeats 300000 in
theorem ok_X12_count (G : ea_G) (p1 : Int32) (m : ea_M)  (rZ : Int32) (mZ : ea_M) (hZ : f_X12_count p1 m = some (rZ, mZ)) : ea_Met G yX12_count F_X12_count [.ref 272, .int p1] m (0, rZ, mZ) := by
  refine ea_met (F := F_X12_count) (by decide +kernel) rfl rfl (Nat.le_of_ble_eq_true rfl) (by simp only [List.mem_cons, List.not_mem_nil, or_false]; intro v hv; rcases hv with rfl | rfl <;> rfl) ((?_ : ea_E G F_X12_count (0, rZ, mZ) 0 [some (.ref 272), some (.int p1)] [] m 0 0 (f_X12_count p1 m) (fun t => t = (rZ, mZ))) (rZ, mZ) hZ rfl)
  have hR : ∀ t : Int32 × ea_M, t = (rZ, mZ) → ((0, rZ, mZ) : ea_O) = (0, t) := fun t h => by rw [h]
  unfold f_X12_count
  refine ev_aload_n (ea_at dt_X12_count 0 rfl) rfl ?_
  refine ev_iconst (ea_at dt_X12_count 1 rfl) ic_0 ?_
  refine ev_putI (ea_at dt_X12_count 2 rfl) fl_X12_3 fp_12_0 sh_272 rfl ?_
  refine ev_m (fun m1 => ?_)
  refine ev_iload_n (ea_at dt_X12_count 3 rfl) rfl ?_
  refine ev_ite (fun n0 => ?_) (fun n0 => ?_)
  · refine ev_tsw (c := 0) (tgt := 80) n0 (ea_at dt_X12_count 4 rfl) (by decide) (by decide) rfl rfl ?_
    refine ev_aload_n (ea_at dt_X12_count 5 rfl) rfl ?_
    refine ev_clI (F1 := F_X12_birds) (fun rY mY hY => ea_runV (As := []) (ea_at dt_X12_count 6 rfl) ml_X12_74 mv_X12_birds (ok_X12_birds G m1  rY mY hY) sh_272 rfl rfl rfl (Nat.le_of_ble_eq_true rfl) rfl) rfl (fun r3 m2 => ?_)
    exact ev_iret (ea_at dt_X12_count 7 rfl) rfl ⟨by decide, by decide⟩ (fun h => hR _ h)
  · refine ev_ite (fun n1 => ?_) (fun n1 => ?_)
    · refine ev_tsw (c := 1) (tgt := 85) n1 (ea_at dt_X12_count 4 rfl) (by decide) (by decide) rfl rfl ?_
      refine ev_aload_n (ea_at dt_X12_count 8 rfl) rfl ?_
      refine ev_clI (F1 := F_X12_counsel) (fun rY mY hY => ea_runV (As := []) (ea_at dt_X12_count 9 rfl) ml_X12_82 mv_X12_counsel (ok_X12_counsel G m1  rY mY hY) sh_272 rfl rfl rfl (Nat.le_of_ble_eq_true rfl) rfl) rfl (fun r5 m4 => ?_)
      exact ev_iret (ea_at dt_X12_count 10 rfl) rfl ⟨by decide, by decide⟩ (fun h => hR _ h)
    · refine ev_ite (fun n2 => ?_) (fun n2 => ?_)
      · refine ev_tsw (c := 2) (tgt := 90) n2 (ea_at dt_X12_count 4 rfl) (by decide) (by decide) rfl rfl ?_
        refine ev_aload_n (ea_at dt_X12_count 11 rfl) rfl ?_
        refine ev_clI (F1 := F_X12_cases) (fun rY mY hY => ea_runV (As := []) (ea_at dt_X12_count 12 rfl) ml_X12_85 mv_X12_cases (ok_X12_cases G m1  rY mY hY) sh_272 rfl rfl rfl (Nat.le_of_ble_eq_true rfl) rfl) rfl (fun r7 m6 => ?_)
        exact ev_iret (ea_at dt_X12_count 13 rfl) rfl ⟨by decide, by decide⟩ (fun h => hR _ h)
      · refine ev_ite (fun n3 => ?_) (fun n3 => ?_)
        · refine ev_tsw (c := 3) (tgt := 95) n3 (ea_at dt_X12_count 4 rfl) (by decide) (by decide) rfl rfl ?_
          refine ev_aload_n (ea_at dt_X12_count 14 rfl) rfl ?_
          refine ev_getR (ea_at dt_X12_count 15 rfl) fl_X12_13 sh_272 rfl ?_
          refine ev_iconst (ea_at dt_X12_count 16 rfl) ic_3 ?_
          refine ev_ialoadC (j := 3) (ea_at dt_X12_count 17 rfl) sh_273 (by decide) (by decide) (by decide) (by decide) ?_
          refine ev_i (fun x8 => ?_)
          exact ev_iret (ea_at dt_X12_count 18 rfl) rfl ⟨by decide, by decide⟩ (fun h => hR _ h)
        · refine ev_ite (fun n4 => ?_) (fun n4 => ?_)
          · refine ev_tsw (c := 4) (tgt := 102) n4 (ea_at dt_X12_count 4 rfl) (by decide) (by decide) rfl rfl ?_
            refine ev_aload_n (ea_at dt_X12_count 19 rfl) rfl ?_
            refine ev_getR (ea_at dt_X12_count 20 rfl) fl_X12_13 sh_272 rfl ?_
            refine ev_iconst (ea_at dt_X12_count 21 rfl) ic_4 ?_
            refine ev_ialoadC (j := 4) (ea_at dt_X12_count 22 rfl) sh_273 (by decide) (by decide) (by decide) (by decide) ?_
            refine ev_i (fun x9 => ?_)
            refine ev_iconst (ea_at dt_X12_count 23 rfl) ic_1 ?_
            refine ev_icmp_ne (tgt := 123) (ea_at dt_X12_count 24 rfl) rfl (fun _ => ?_) (fun _ => ?_)
            · refine ev_aload_n (ea_at dt_X12_count 25 rfl) rfl ?_
              refine ev_getR (ea_at dt_X12_count 26 rfl) fl_X12_13 sh_272 rfl ?_
              refine ev_sipush (ea_at dt_X12_count 27 rfl) sp_482 ?_
              refine ev_ialoadC (j := 482) (ea_at dt_X12_count 28 rfl) sh_273 (by decide) (by decide) (by decide) (by decide) ?_
              refine ev_i (fun x10 => ?_)
              refine ev_goto (tgt := 124) (ea_at dt_X12_count 29 rfl) rfl ?_
              exact ev_iret (ea_at dt_X12_count 31 rfl) rfl ⟨by decide, by decide⟩ (fun h => hR _ h)
            · refine ev_iconst (ea_at dt_X12_count 30 rfl) ic_m1 ?_
              exact ev_iret (ea_at dt_X12_count 31 rfl) rfl ⟨by decide, by decide⟩ (fun h => hR _ h)
          · refine ev_ite (fun n5 => ?_) (fun n5 => ?_)
            · refine ev_tsw (c := 5) (tgt := 156) n5 (ea_at dt_X12_count 4 rfl) (by decide) (by decide) rfl rfl ?_
              exact ev_drop (l' := [some (.ref 272), some (.int p1)]) ⟨Or.inr rfl, Or.inr rfl, trivial⟩ (jn_X12_count_156 G p1 m1  hR)
            · refine ev_ite (fun n6 => ?_) (fun n6 => ?_)
              · refine ev_tsw (c := 6) (tgt := 156) n6 (ea_at dt_X12_count 4 rfl) (by decide) (by decide) rfl rfl ?_
                exact ev_drop (l' := [some (.ref 272), some (.int p1)]) ⟨Or.inr rfl, Or.inr rfl, trivial⟩ (jn_X12_count_156 G p1 m1  hR)
              · refine ev_ite (fun n7 => ?_) (fun n7 => ?_)
                · refine ev_tsw (c := 7) (tgt := 156) n7 (ea_at dt_X12_count 4 rfl) (by decide) (by decide) rfl rfl ?_
                  exact ev_drop (l' := [some (.ref 272), some (.int p1)]) ⟨Or.inr rfl, Or.inr rfl, trivial⟩ (jn_X12_count_156 G p1 m1  hR)
                · refine ev_ite (fun n8 => ?_) (fun n8 => ?_)
                  · refine ev_tsw (c := 8) (tgt := 156) n8 (ea_at dt_X12_count 4 rfl) (by decide) (by decide) rfl rfl ?_
                    exact ev_drop (l' := [some (.ref 272), some (.int p1)]) ⟨Or.inr rfl, Or.inr rfl, trivial⟩ (jn_X12_count_156 G p1 m1  hR)
                  · refine ev_ite (fun n9 => ?_) (fun n9 => ?_)
                    · refine ev_tsw (c := 9) (tgt := 156) n9 (ea_at dt_X12_count 4 rfl) (by decide) (by decide) rfl rfl ?_
                      exact ev_drop (l' := [some (.ref 272), some (.int p1)]) ⟨Or.inr rfl, Or.inr rfl, trivial⟩ (jn_X12_count_156 G p1 m1  hR)
                    · refine ev_ite (fun n10 => ?_) (fun n10 => ?_)
                      · refine ev_tsw (c := 10) (tgt := 156) n10 (ea_at dt_X12_count 4 rfl) (by decide) (by decide) rfl rfl ?_
                        exact ev_drop (l' := [some (.ref 272), some (.int p1)]) ⟨Or.inr rfl, Or.inr rfl, trivial⟩ (jn_X12_count_156 G p1 m1  hR)
                      · refine ev_ite (fun n11 => ?_) (fun n11 => ?_)
                        · refine ev_tsw (c := 11) (tgt := 125) n11 (ea_at dt_X12_count 4 rfl) (by decide) (by decide) rfl rfl ?_
                          refine ev_aload_n (ea_at dt_X12_count 32 rfl) rfl ?_
                          refine ev_clI (F1 := F_X12_openOnes) (fun rY mY hY => ea_runV (As := []) (ea_at dt_X12_count 33 rfl) ml_X12_462 mv_X12_openOnes (ok_X12_openOnes G m1  rY mY hY) sh_272 rfl rfl rfl (Nat.le_of_ble_eq_true rfl) rfl) rfl (fun r16 m15 => ?_)
                          exact ev_iret (ea_at dt_X12_count 34 rfl) rfl ⟨by decide, by decide⟩ (fun h => hR _ h)
                        · refine ev_ite (fun n12 => ?_) (fun n12 => ?_)
                          · refine ev_tsw (c := 12) (tgt := 130) n12 (ea_at dt_X12_count 4 rfl) (by decide) (by decide) rfl rfl ?_
                            refine ev_aload_n (ea_at dt_X12_count 35 rfl) rfl ?_
                            refine ev_clI (F1 := F_X12_isCalm) (fun rY mY hY => ea_runV (As := []) (ea_at dt_X12_count 36 rfl) ml_X12_465 mv_X12_isCalm (ok_X12_isCalm G m1  rY mY hY) sh_272 rfl rfl rfl (Nat.le_of_ble_eq_true rfl) rfl) rfl (fun r18 m17 => ?_)
                            refine ev_if_eq (tgt := 141) (ea_at dt_X12_count 37 rfl) rfl (fun _ => ?_) (fun _ => ?_)
                            · refine ev_iconst (ea_at dt_X12_count 40 rfl) ic_0 ?_
                              exact ev_iret (ea_at dt_X12_count 41 rfl) rfl ⟨by decide, by decide⟩ (fun h => hR _ h)
                            · refine ev_iconst (ea_at dt_X12_count 38 rfl) ic_1 ?_
                              refine ev_goto (tgt := 142) (ea_at dt_X12_count 39 rfl) rfl ?_
                              exact ev_iret (ea_at dt_X12_count 41 rfl) rfl ⟨by decide, by decide⟩ (fun h => hR _ h)
                          · refine ev_ite (fun n13 => ?_) (fun n13 => ?_)
                            · refine ev_tsw (c := 13) (tgt := 143) n13 (ea_at dt_X12_count 4 rfl) (by decide) (by decide) rfl rfl ?_
                              refine ev_aload_n (ea_at dt_X12_count 42 rfl) rfl ?_
                              refine ev_getR (ea_at dt_X12_count 43 rfl) fl_X12_13 sh_272 rfl ?_
                              refine ev_bipush (ea_at dt_X12_count 44 rfl) bp_11 ?_
                              refine ev_ialoadC (j := 11) (ea_at dt_X12_count 45 rfl) sh_273 (by decide) (by decide) (by decide) (by decide) ?_
                              refine ev_i (fun x19 => ?_)
                              exact ev_iret (ea_at dt_X12_count 46 rfl) rfl ⟨by decide, by decide⟩ (fun h => hR _ h)
                            · refine ev_ite (fun n14 => ?_) (fun n14 => ?_)
                              · refine ev_tsw (c := 14) (tgt := 151) n14 (ea_at dt_X12_count 4 rfl) (by decide) (by decide) rfl rfl ?_
                                refine ev_aload_n (ea_at dt_X12_count 47 rfl) rfl ?_
                                refine ev_getI (ea_at dt_X12_count 48 rfl) fl_X12_64 sh_272 rfl ?_
                                refine ev_i (fun x20 => ?_)
                                exact ev_iret (ea_at dt_X12_count 49 rfl) rfl ⟨by decide, by decide⟩ (fun h => hR _ h)
                              · refine ev_tswOut (cnt := 15) (tgt := 156) (ea_at dt_X12_count 4 rfl) rfl (ea_nS (ea_nS (ea_nS (ea_nS (ea_nS (ea_nS (ea_nS (ea_nS (ea_nS (ea_nS (ea_nS (ea_nS (ea_nS (ea_nS (ea_nS (ea_nZ) (v := 0) (by decide) n0) (v := 1) (by decide) n1) (v := 2) (by decide) n2) (v := 3) (by decide) n3) (v := 4) (by decide) n4) (v := 5) (by decide) n5) (v := 6) (by decide) n6) (v := 7) (by decide) n7) (v := 8) (by decide) n8) (v := 9) (by decide) n9) (v := 10) (by decide) n10) (v := 11) (by decide) n11) (v := 12) (by decide) n12) (v := 13) (by decide) n13) (v := 14) (by decide) n14) rfl ?_
                                exact ev_drop (l' := [some (.ref 272), some (.int p1)]) ⟨Or.inr rfl, Or.inr rfl, trivial⟩ (jn_X12_count_156 G p1 m1  hR)
def F_L_court : ea_F := (ea_rm 20 1 6, cL_court, RL, some .int, 3, [(0, 8, 11, 13), (0, 8, 14, 15)], 1, 6)
def D_L_court : List (Nat × Instr × Nat) := [(0, .aload_n 1, 1), (1, .iconst 0, 1), (2, .aload_n 0, 1), (3, .invokevirtual 7, 3), (6, .i2l, 1), (7, .lastore, 1), (8, .goto 9, 3), (11, .astore_n 2, 1), (12, .iconst 1, 1), (13, .ireturn, 1), (14, .astore_n 2, 1), (15, .iconst 2, 1), (16, .ireturn, 1), (17, .iconst 0, 1), (18, .ireturn, 1)]
theorem dt_L_court : ∀ q ∈ D_L_court, decode cL_court q.1 = .ok q.2 := by decide +kernel
theorem mv_L_court : ea_MSH yL_court (F_L_court) 2 := ⟨⟨List.mem_append_right _ (List.mem_of_getElem? (i := 0) (by decide +kernel)), List.mem_append_right _ (List.mem_of_getElem? (i := 636) (by decide +kernel)), ⟨by decide, by decide⟩, by decide +kernel⟩, List.mem_append_right _ (List.mem_of_getElem? (i := 635) (by decide +kernel))⟩
def f_L_court (m : ea_M) : Option (Int32 × ea_M) :=
  ea_cx (f_X11_court m) (fun r2 m1 =>
  ea_bd (ea_st m1 287 0 r2) fun m3 =>
  some (0, m3)) (fun kx m4 => if kx = 2 then
  some (1, m4)
  else if kx = 5 then
  some (2, m4)
  else none)
set_option maxHeartbeats 300000 in
theorem ok_L_court (G : ea_G) (m : ea_M)  (rZ : Int32) (mZ : ea_M) (hZ : f_L_court m = some (rZ, mZ)) : ea_MetH G yL_court F_L_court [.ref 0, .ref 287] m (0, rZ, mZ) := by
  refine ea_metH (F := F_L_court) rfl rfl (Nat.le_of_ble_eq_true rfl) (by simp only [List.mem_cons, List.not_mem_nil, or_false]; intro v hv; rcases hv with rfl | rfl <;> rfl) ((?_ : ea_E G F_L_court (0, rZ, mZ) 0 [some (.ref 0), some (.ref 287), none] [] m 0 0 (f_L_court m) (fun t => t = (rZ, mZ))) (rZ, mZ) hZ rfl)
  have hR : ∀ t : Int32 × ea_M, t = (rZ, mZ) → ((0, rZ, mZ) : ea_O) = (0, t) := fun t h => by rw [h]
  unfold f_L_court
  refine ev_aload_n (ea_at dt_L_court 0 rfl) rfl ?_
  refine ev_iconst (ea_at dt_L_court 1 rfl) ic_0 ?_
  refine ev_aload_n (ea_at dt_L_court 2 rfl) rfl ?_
  refine ev_cxC (F1 := F_X11_court) (fun zY hY => ea_runV (As := []) (ea_at dt_L_court 3 rfl) ml_L_7 mv_X11_court (ok_X11_court G m  zY hY) sh_0 rfl rfl rfl (Nat.le_of_ble_eq_true rfl) rfl) rfl (fun kx m4 t hkx e q => ?_) (fun r2 m1 => ?_)
  · by_cases hk : kx = 2
    · rw [if_pos hk] at e
      subst hk
      refine ea_caught (pre := []) (name := "java/lang/IllegalArgumentException") rfl (fun z hz => by cases hz) (by decide) (by decide) cl_L_13 cast_2 (ea_at dt_L_court 7 rfl) (by decide) ?_
      refine (?_ : ea_E G F_L_court (0, rZ, mZ) 12 [some (.ref 0), some (.ref 287), none] [] m4 1 6 _ (fun t => t = (rZ, mZ))) t e q
      refine ev_iconst (ea_at dt_L_court 8 rfl) ic_1 ?_
      exact ev_iret (ea_at dt_L_court 9 rfl) rfl ⟨by decide, by decide⟩ (fun h => hR _ h)
    · rw [if_neg hk] at e
      by_cases hk : kx = 5
      · rw [if_pos hk] at e
        subst hk
        refine ea_caught (pre := [(0, 8, 11, 13)]) (name := "java/lang/UnsupportedOperationException") rfl (fun z hz => by simp only [List.mem_cons, List.not_mem_nil, or_false] at hz; rcases hz with rfl <;> first | exact ⟨by decide, _, cl_L_13, by decide⟩) (by decide) (by decide) cl_L_15 cast_5 (ea_at dt_L_court 10 rfl) (by decide) ?_
        refine (?_ : ea_E G F_L_court (0, rZ, mZ) 15 [some (.ref 0), some (.ref 287), none] [] m4 1 6 _ (fun t => t = (rZ, mZ))) t e q
        refine ev_iconst (ea_at dt_L_court 11 rfl) ic_2 ?_
        exact ev_iret (ea_at dt_L_court 12 rfl) rfl ⟨by decide, by decide⟩ (fun h => hR _ h)
      · rw [if_neg hk] at e
        cases e
  · refine ev_i2l (ea_at dt_L_court 4 rfl) ?_
    refine ev_lastoreC (j := 0) (ea_at dt_L_court 5 rfl) sh_287 (by decide) (by decide) (by decide) ?_
    refine ev_m (fun m3 => ?_)
    refine ev_goto (tgt := 17) (ea_at dt_L_court 6 rfl) rfl ?_
    refine ev_iconst (ea_at dt_L_court 13 rfl) ic_0 ?_
    exact ev_iret (ea_at dt_L_court 14 rfl) rfl ⟨by decide, by decide⟩ (fun h => hR _ h)
def F_L_law : ea_F := (ea_rm 55 1 6, cL_law, RL, some .int, 3, [(0, 8, 11, 13)], 1, 6)
def D_L_law : List (Nat × Instr × Nat) := [(0, .aload_n 1, 1), (1, .iconst 0, 1), (2, .aload_n 0, 1), (3, .invokevirtual 17, 3), (6, .i2l, 1), (7, .lastore, 1), (8, .goto 6, 3), (11, .astore_n 2, 1), (12, .iconst 1, 1), (13, .ireturn, 1), (14, .iconst 0, 1), (15, .ireturn, 1)]
theorem dt_L_law : ∀ q ∈ D_L_law, decode cL_law q.1 = .ok q.2 := by decide +kernel
theorem mv_L_law : ea_MSH yL_law (F_L_law) 2 := ⟨⟨List.mem_append_right _ (List.mem_of_getElem? (i := 0) (by decide +kernel)), List.mem_append_right _ (List.mem_of_getElem? (i := 882) (by decide +kernel)), ⟨by decide, by decide⟩, by decide +kernel⟩, List.mem_append_right _ (List.mem_of_getElem? (i := 881) (by decide +kernel))⟩
def f_L_law (m : ea_M) : Option (Int32 × ea_M) :=
  ea_cx (f_X11_law m) (fun r2 m1 =>
  ea_bd (ea_st m1 287 0 r2) fun m3 =>
  some (0, m3)) (fun kx m4 => if kx = 2 then
  some (1, m4)
  else none)
set_option maxHeartbeats 300000 in
theorem ok_L_law (G : ea_G) (m : ea_M)  (rZ : Int32) (mZ : ea_M) (hZ : f_L_law m = some (rZ, mZ)) : ea_MetH G yL_law F_L_law [.ref 0, .ref 287] m (0, rZ, mZ) := by
  refine ea_metH (F := F_L_law) rfl rfl (Nat.le_of_ble_eq_true rfl) (by simp only [List.mem_cons, List.not_mem_nil, or_false]; intro v hv; rcases hv with rfl | rfl <;> rfl) ((?_ : ea_E G F_L_law (0, rZ, mZ) 0 [some (.ref 0), some (.ref 287), none] [] m 0 0 (f_L_law m) (fun t => t = (rZ, mZ))) (rZ, mZ) hZ rfl)
  have hR : ∀ t : Int32 × ea_M, t = (rZ, mZ) → ((0, rZ, mZ) : ea_O) = (0, t) := fun t h => by rw [h]
  unfold f_L_law
  refine ev_aload_n (ea_at dt_L_law 0 rfl) rfl ?_
  refine ev_iconst (ea_at dt_L_law 1 rfl) ic_0 ?_
  refine ev_aload_n (ea_at dt_L_law 2 rfl) rfl ?_
  refine ev_cxC (F1 := F_X11_law) (fun zY hY => ea_runV (As := []) (ea_at dt_L_law 3 rfl) ml_L_17 mv_X11_law (ok_X11_law G m  zY hY) sh_0 rfl rfl rfl (Nat.le_of_ble_eq_true rfl) rfl) rfl (fun kx m4 t hkx e q => ?_) (fun r2 m1 => ?_)
  · by_cases hk : kx = 2
    · rw [if_pos hk] at e
      subst hk
      refine ea_caught (pre := []) (name := "java/lang/IllegalArgumentException") rfl (fun z hz => by cases hz) (by decide) (by decide) cl_L_13 cast_2 (ea_at dt_L_law 7 rfl) (by decide) ?_
      refine (?_ : ea_E G F_L_law (0, rZ, mZ) 12 [some (.ref 0), some (.ref 287), none] [] m4 1 6 _ (fun t => t = (rZ, mZ))) t e q
      refine ev_iconst (ea_at dt_L_law 8 rfl) ic_1 ?_
      exact ev_iret (ea_at dt_L_law 9 rfl) rfl ⟨by decide, by decide⟩ (fun h => hR _ h)
    · rw [if_neg hk] at e
      cases e
  · refine ev_i2l (ea_at dt_L_law 4 rfl) ?_
    refine ev_lastoreC (j := 0) (ea_at dt_L_law 5 rfl) sh_287 (by decide) (by decide) (by decide) ?_
    refine ev_m (fun m3 => ?_)
    refine ev_goto (tgt := 14) (ea_at dt_L_law 6 rfl) rfl ?_
    refine ev_iconst (ea_at dt_L_law 10 rfl) ic_0 ?_
    exact ev_iret (ea_at dt_L_law 11 rfl) rfl ⟨by decide, by decide⟩ (fun h => hR _ h)
def F_L_bird : ea_F := (ea_rm 10 2 12, cL_bird, RL, some .int, 5, [(0, 10, 13, 24), (0, 10, 17, 26)], 2, 12)
def D_L_bird : List (Nat × Instr × Nat) := [(0, .aload_n 3, 1), (1, .iconst 0, 1), (2, .aload_n 0, 1), (3, .iload_n 1, 1), (4, .iload_n 2, 1), (5, .invokevirtual 20, 3), (8, .i2l, 1), (9, .lastore, 1), (10, .goto 11, 3), (13, .astore 4, 2), (15, .iconst 1, 1), (16, .ireturn, 1), (17, .astore 4, 2), (19, .iconst 2, 1), (20, .ireturn, 1), (21, .iconst 0, 1), (22, .ireturn, 1)]
theorem dt_L_bird : ∀ q ∈ D_L_bird, decode cL_bird q.1 = .ok q.2 := by decide +kernel
theorem mv_L_bird : ea_MSH yL_bird (F_L_bird) 4 := ⟨⟨List.mem_append_right _ (List.mem_of_getElem? (i := 0) (by decide +kernel)), List.mem_append_right _ (List.mem_of_getElem? (i := 969) (by decide +kernel)), ⟨by decide, by decide⟩, by decide +kernel⟩, List.mem_append_right _ (List.mem_of_getElem? (i := 968) (by decide +kernel))⟩
def f_L_bird (p2 : Int32) (p3 : Int32) (m : ea_M) : Option (Int32 × ea_M) :=
  ea_cx (f_X11_bird p2 p3 m) (fun r2 m1 =>
  ea_bd (ea_st m1 287 0 r2) fun m3 =>
  some (0, m3)) (fun kx m4 => if kx = 1 then
  some (1, m4)
  else if kx = 4 then
  some (2, m4)
  else none)
set_option maxHeartbeats 300000 in
theorem ok_L_bird (G : ea_G) (p2 : Int32) (p3 : Int32) (m : ea_M)  (rZ : Int32) (mZ : ea_M) (hZ : f_L_bird p2 p3 m = some (rZ, mZ)) : ea_MetH G yL_bird F_L_bird [.ref 0, .int p2, .int p3, .ref 287] m (0, rZ, mZ) := by
  refine ea_metH (F := F_L_bird) rfl rfl (Nat.le_of_ble_eq_true rfl) (by simp only [List.mem_cons, List.not_mem_nil, or_false]; intro v hv; rcases hv with rfl | rfl | rfl | rfl <;> rfl) ((?_ : ea_E G F_L_bird (0, rZ, mZ) 0 [some (.ref 0), some (.int p2), some (.int p3), some (.ref 287), none] [] m 0 0 (f_L_bird p2 p3 m) (fun t => t = (rZ, mZ))) (rZ, mZ) hZ rfl)
  have hR : ∀ t : Int32 × ea_M, t = (rZ, mZ) → ((0, rZ, mZ) : ea_O) = (0, t) := fun t h => by rw [h]
  unfold f_L_bird
  refine ev_aload_n (ea_at dt_L_bird 0 rfl) rfl ?_
  refine ev_iconst (ea_at dt_L_bird 1 rfl) ic_0 ?_
  refine ev_aload_n (ea_at dt_L_bird 2 rfl) rfl ?_
  refine ev_iload_n (ea_at dt_L_bird 3 rfl) rfl ?_
  refine ev_iload_n (ea_at dt_L_bird 4 rfl) rfl ?_
  refine ev_cxC (F1 := F_X11_bird) (fun zY hY => ea_runV (As := [.int p2, .int p3]) (ea_at dt_L_bird 5 rfl) ml_L_20 mv_X11_bird (ok_X11_bird G p2 p3 m  zY hY) sh_0 rfl rfl rfl (Nat.le_of_ble_eq_true rfl) rfl) rfl (fun kx m4 t hkx e q => ?_) (fun r2 m1 => ?_)
  · by_cases hk : kx = 1
    · rw [if_pos hk] at e
      subst hk
      refine ea_caught2 (pre := []) (name := "java/lang/IndexOutOfBoundsException") rfl (fun z hz => by cases hz) (by decide) (by decide) cl_L_24 cast_1 (ea_at dt_L_bird 9 rfl) (by decide) ?_
      refine (?_ : ea_E G F_L_bird (0, rZ, mZ) 15 [some (.ref 0), some (.int p2), some (.int p3), some (.ref 287), none] [] m4 2 12 _ (fun t => t = (rZ, mZ))) t e q
      refine ev_iconst (ea_at dt_L_bird 10 rfl) ic_1 ?_
      exact ev_iret (ea_at dt_L_bird 11 rfl) rfl ⟨by decide, by decide⟩ (fun h => hR _ h)
    · rw [if_neg hk] at e
      by_cases hk : kx = 4
      · rw [if_pos hk] at e
        subst hk
        refine ea_caught2 (pre := [(0, 10, 13, 24)]) (name := "java/util/NoSuchElementException") rfl (fun z hz => by simp only [List.mem_cons, List.not_mem_nil, or_false] at hz; rcases hz with rfl <;> first | exact ⟨by decide, _, cl_L_24, by decide⟩) (by decide) (by decide) cl_L_26 cast_4 (ea_at dt_L_bird 12 rfl) (by decide) ?_
        refine (?_ : ea_E G F_L_bird (0, rZ, mZ) 19 [some (.ref 0), some (.int p2), some (.int p3), some (.ref 287), none] [] m4 2 12 _ (fun t => t = (rZ, mZ))) t e q
        refine ev_iconst (ea_at dt_L_bird 13 rfl) ic_2 ?_
        exact ev_iret (ea_at dt_L_bird 14 rfl) rfl ⟨by decide, by decide⟩ (fun h => hR _ h)
      · rw [if_neg hk] at e
        cases e
  · refine ev_i2l (ea_at dt_L_bird 6 rfl) ?_
    refine ev_lastoreC (j := 0) (ea_at dt_L_bird 7 rfl) sh_287 (by decide) (by decide) (by decide) ?_
    refine ev_m (fun m3 => ?_)
    refine ev_goto (tgt := 21) (ea_at dt_L_bird 8 rfl) rfl ?_
    refine ev_iconst (ea_at dt_L_bird 15 rfl) ic_0 ?_
    exact ev_iret (ea_at dt_L_bird 16 rfl) rfl ⟨by decide, by decide⟩ (fun h => hR _ h)
def F_L_stock : ea_F := (ea_rm 10 2 12, cL_stock, RL, some .int, 5, [(0, 10, 13, 24)], 2, 12)
def D_L_stock : List (Nat × Instr × Nat) := [(0, .aload_n 3, 1), (1, .iconst 0, 1), (2, .aload_n 0, 1), (3, .iload_n 1, 1), (4, .iload_n 2, 1), (5, .invokevirtual 28, 3), (8, .i2l, 1), (9, .lastore, 1), (10, .goto 7, 3), (13, .astore 4, 2), (15, .iconst 1, 1), (16, .ireturn, 1), (17, .iconst 0, 1), (18, .ireturn, 1)]
theorem dt_L_stock : ∀ q ∈ D_L_stock, decode cL_stock q.1 = .ok q.2 := by decide +kernel
theorem mv_L_stock : ea_MSH yL_stock (F_L_stock) 4 := ⟨⟨List.mem_append_right _ (List.mem_of_getElem? (i := 0) (by decide +kernel)), List.mem_append_right _ (List.mem_of_getElem? (i := 1014) (by decide +kernel)), ⟨by decide, by decide⟩, by decide +kernel⟩, List.mem_append_right _ (List.mem_of_getElem? (i := 1013) (by decide +kernel))⟩
def f_L_stock (p2 : Int32) (p3 : Int32) (m : ea_M) : Option (Int32 × ea_M) :=
  ea_cx (f_X11_stock p2 p3 m) (fun r2 m1 =>
  ea_bd (ea_st m1 287 0 r2) fun m3 =>
  some (0, m3)) (fun kx m4 => if kx = 1 then
  some (1, m4)
  else none)
set_option maxHeartbeats 300000 in
theorem ok_L_stock (G : ea_G) (p2 : Int32) (p3 : Int32) (m : ea_M)  (rZ : Int32) (mZ : ea_M) (hZ : f_L_stock p2 p3 m = some (rZ, mZ)) : ea_MetH G yL_stock F_L_stock [.ref 0, .int p2, .int p3, .ref 287] m (0, rZ, mZ) := by
  refine ea_metH (F := F_L_stock) rfl rfl (Nat.le_of_ble_eq_true rfl) (by simp only [List.mem_cons, List.not_mem_nil, or_false]; intro v hv; rcases hv with rfl | rfl | rfl | rfl <;> rfl) ((?_ : ea_E G F_L_stock (0, rZ, mZ) 0 [some (.ref 0), some (.int p2), some (.int p3), some (.ref 287), none] [] m 0 0 (f_L_stock p2 p3 m) (fun t => t = (rZ, mZ))) (rZ, mZ) hZ rfl)
  have hR : ∀ t : Int32 × ea_M, t = (rZ, mZ) → ((0, rZ, mZ) : ea_O) = (0, t) := fun t h => by rw [h]
  unfold f_L_stock
  refine ev_aload_n (ea_at dt_L_stock 0 rfl) rfl ?_
  refine ev_iconst (ea_at dt_L_stock 1 rfl) ic_0 ?_
  refine ev_aload_n (ea_at dt_L_stock 2 rfl) rfl ?_
  refine ev_iload_n (ea_at dt_L_stock 3 rfl) rfl ?_
  refine ev_iload_n (ea_at dt_L_stock 4 rfl) rfl ?_
  refine ev_cxC (F1 := F_X11_stock) (fun zY hY => ea_runV (As := [.int p2, .int p3]) (ea_at dt_L_stock 5 rfl) ml_L_28 mv_X11_stock (ok_X11_stock G p2 p3 m  zY hY) sh_0 rfl rfl rfl (Nat.le_of_ble_eq_true rfl) rfl) rfl (fun kx m4 t hkx e q => ?_) (fun r2 m1 => ?_)
  · by_cases hk : kx = 1
    · rw [if_pos hk] at e
      subst hk
      refine ea_caught2 (pre := []) (name := "java/lang/IndexOutOfBoundsException") rfl (fun z hz => by cases hz) (by decide) (by decide) cl_L_24 cast_1 (ea_at dt_L_stock 9 rfl) (by decide) ?_
      refine (?_ : ea_E G F_L_stock (0, rZ, mZ) 15 [some (.ref 0), some (.int p2), some (.int p3), some (.ref 287), none] [] m4 2 12 _ (fun t => t = (rZ, mZ))) t e q
      refine ev_iconst (ea_at dt_L_stock 10 rfl) ic_1 ?_
      exact ev_iret (ea_at dt_L_stock 11 rfl) rfl ⟨by decide, by decide⟩ (fun h => hR _ h)
    · rw [if_neg hk] at e
      cases e
  · refine ev_i2l (ea_at dt_L_stock 6 rfl) ?_
    refine ev_lastoreC (j := 0) (ea_at dt_L_stock 7 rfl) sh_287 (by decide) (by decide) (by decide) ?_
    refine ev_m (fun m3 => ?_)
    refine ev_goto (tgt := 17) (ea_at dt_L_stock 8 rfl) rfl ?_
    refine ev_iconst (ea_at dt_L_stock 12 rfl) ic_0 ?_
    exact ev_iret (ea_at dt_L_stock 13 rfl) rfl ⟨by decide, by decide⟩ (fun h => hR _ h)
def F_L_matter : ea_F := (ea_rm 11 2 12, cL_matter, RL, some .int, 5, [(0, 10, 13, 24), (0, 10, 17, 26)], 2, 12)
def D_L_matter : List (Nat × Instr × Nat) := [(0, .aload_n 3, 1), (1, .iconst 0, 1), (2, .aload_n 0, 1), (3, .iload_n 1, 1), (4, .iload_n 2, 1), (5, .invokevirtual 31, 3), (8, .i2l, 1), (9, .lastore, 1), (10, .goto 11, 3), (13, .astore 4, 2), (15, .iconst 1, 1), (16, .ireturn, 1), (17, .astore 4, 2), (19, .iconst 2, 1), (20, .ireturn, 1), (21, .iconst 0, 1), (22, .ireturn, 1)]
theorem dt_L_matter : ∀ q ∈ D_L_matter, decode cL_matter q.1 = .ok q.2 := by decide +kernel
theorem mv_L_matter : ea_MSH yL_matter (F_L_matter) 4 := ⟨⟨List.mem_append_right _ (List.mem_of_getElem? (i := 0) (by decide +kernel)), List.mem_append_right _ (List.mem_of_getElem? (i := 1026) (by decide +kernel)), ⟨by decide, by decide⟩, by decide +kernel⟩, List.mem_append_right _ (List.mem_of_getElem? (i := 1025) (by decide +kernel))⟩
def f_L_matter (p2 : Int32) (p3 : Int32) (m : ea_M) : Option (Int32 × ea_M) :=
  ea_cx (f_X11_matter p2 p3 m) (fun r2 m1 =>
  ea_bd (ea_st m1 287 0 r2) fun m3 =>
  some (0, m3)) (fun kx m4 => if kx = 1 then
  some (1, m4)
  else if kx = 4 then
  some (2, m4)
  else none)
set_option maxHeartbeats 300000 in
theorem ok_L_matter (G : ea_G) (p2 : Int32) (p3 : Int32) (m : ea_M)  (rZ : Int32) (mZ : ea_M) (hZ : f_L_matter p2 p3 m = some (rZ, mZ)) : ea_MetH G yL_matter F_L_matter [.ref 0, .int p2, .int p3, .ref 287] m (0, rZ, mZ) := by
  refine ea_metH (F := F_L_matter) rfl rfl (Nat.le_of_ble_eq_true rfl) (by simp only [List.mem_cons, List.not_mem_nil, or_false]; intro v hv; rcases hv with rfl | rfl | rfl | rfl <;> rfl) ((?_ : ea_E G F_L_matter (0, rZ, mZ) 0 [some (.ref 0), some (.int p2), some (.int p3), some (.ref 287), none] [] m 0 0 (f_L_matter p2 p3 m) (fun t => t = (rZ, mZ))) (rZ, mZ) hZ rfl)
  have hR : ∀ t : Int32 × ea_M, t = (rZ, mZ) → ((0, rZ, mZ) : ea_O) = (0, t) := fun t h => by rw [h]
  unfold f_L_matter
  refine ev_aload_n (ea_at dt_L_matter 0 rfl) rfl ?_
  refine ev_iconst (ea_at dt_L_matter 1 rfl) ic_0 ?_
  refine ev_aload_n (ea_at dt_L_matter 2 rfl) rfl ?_
  refine ev_iload_n (ea_at dt_L_matter 3 rfl) rfl ?_
  refine ev_iload_n (ea_at dt_L_matter 4 rfl) rfl ?_
  refine ev_cxC (F1 := F_X11_matter) (fun zY hY => ea_runV (As := [.int p2, .int p3]) (ea_at dt_L_matter 5 rfl) ml_L_31 mv_X11_matter (ok_X11_matter G p2 p3 m  zY hY) sh_0 rfl rfl rfl (Nat.le_of_ble_eq_true rfl) rfl) rfl (fun kx m4 t hkx e q => ?_) (fun r2 m1 => ?_)
  · by_cases hk : kx = 1
    · rw [if_pos hk] at e
      subst hk
      refine ea_caught2 (pre := []) (name := "java/lang/IndexOutOfBoundsException") rfl (fun z hz => by cases hz) (by decide) (by decide) cl_L_24 cast_1 (ea_at dt_L_matter 9 rfl) (by decide) ?_
      refine (?_ : ea_E G F_L_matter (0, rZ, mZ) 15 [some (.ref 0), some (.int p2), some (.int p3), some (.ref 287), none] [] m4 2 12 _ (fun t => t = (rZ, mZ))) t e q
      refine ev_iconst (ea_at dt_L_matter 10 rfl) ic_1 ?_
      exact ev_iret (ea_at dt_L_matter 11 rfl) rfl ⟨by decide, by decide⟩ (fun h => hR _ h)
    · rw [if_neg hk] at e
      by_cases hk : kx = 4
      · rw [if_pos hk] at e
        subst hk
        refine ea_caught2 (pre := [(0, 10, 13, 24)]) (name := "java/util/NoSuchElementException") rfl (fun z hz => by simp only [List.mem_cons, List.not_mem_nil, or_false] at hz; rcases hz with rfl <;> first | exact ⟨by decide, _, cl_L_24, by decide⟩) (by decide) (by decide) cl_L_26 cast_4 (ea_at dt_L_matter 12 rfl) (by decide) ?_
        refine (?_ : ea_E G F_L_matter (0, rZ, mZ) 19 [some (.ref 0), some (.int p2), some (.int p3), some (.ref 287), none] [] m4 2 12 _ (fun t => t = (rZ, mZ))) t e q
        refine ev_iconst (ea_at dt_L_matter 13 rfl) ic_2 ?_
        exact ev_iret (ea_at dt_L_matter 14 rfl) rfl ⟨by decide, by decide⟩ (fun h => hR _ h)
      · rw [if_neg hk] at e
        cases e
  · refine ev_i2l (ea_at dt_L_matter 6 rfl) ?_
    refine ev_lastoreC (j := 0) (ea_at dt_L_matter 7 rfl) sh_287 (by decide) (by decide) (by decide) ?_
    refine ev_m (fun m3 => ?_)
    refine ev_goto (tgt := 21) (ea_at dt_L_matter 8 rfl) rfl ?_
    refine ev_iconst (ea_at dt_L_matter 15 rfl) ic_0 ?_
    exact ev_iret (ea_at dt_L_matter 16 rfl) rfl ⟨by decide, by decide⟩ (fun h => hR _ h)
def F_L_wind : ea_F := (ea_rm 10 1 6, cL_wind, RL, some .int, 4, [(0, 9, 12, 24)], 1, 6)
def D_L_wind : List (Nat × Instr × Nat) := [(0, .aload_n 2, 1), (1, .iconst 0, 1), (2, .aload_n 0, 1), (3, .iload_n 1, 1), (4, .invokevirtual 34, 3), (7, .i2l, 1), (8, .lastore, 1), (9, .goto 6, 3), (12, .astore_n 3, 1), (13, .iconst 1, 1), (14, .ireturn, 1), (15, .iconst 0, 1), (16, .ireturn, 1)]
theorem dt_L_wind : ∀ q ∈ D_L_wind, decode cL_wind q.1 = .ok q.2 := by decide +kernel
theorem mv_L_wind : ea_MSH yL_wind (F_L_wind) 3 := ⟨⟨List.mem_append_right _ (List.mem_of_getElem? (i := 0) (by decide +kernel)), List.mem_append_right _ (List.mem_of_getElem? (i := 1043) (by decide +kernel)), ⟨by decide, by decide⟩, by decide +kernel⟩, List.mem_append_right _ (List.mem_of_getElem? (i := 1042) (by decide +kernel))⟩
def f_L_wind (p2 : Int32) (m : ea_M) : Option (Int32 × ea_M) :=
  ea_cx (f_X11_wind p2 m) (fun r2 m1 =>
  ea_bd (ea_st m1 287 0 r2) fun m3 =>
  some (0, m3)) (fun kx m4 => if kx = 1 then
  some (1, m4)
  else none)
set_option maxHeartbeats 300000 in
theorem ok_L_wind (G : ea_G) (p2 : Int32) (m : ea_M)  (rZ : Int32) (mZ : ea_M) (hZ : f_L_wind p2 m = some (rZ, mZ)) : ea_MetH G yL_wind F_L_wind [.ref 0, .int p2, .ref 287] m (0, rZ, mZ) := by
  refine ea_metH (F := F_L_wind) rfl rfl (Nat.le_of_ble_eq_true rfl) (by simp only [List.mem_cons, List.not_mem_nil, or_false]; intro v hv; rcases hv with rfl | rfl | rfl <;> rfl) ((?_ : ea_E G F_L_wind (0, rZ, mZ) 0 [some (.ref 0), some (.int p2), some (.ref 287), none] [] m 0 0 (f_L_wind p2 m) (fun t => t = (rZ, mZ))) (rZ, mZ) hZ rfl)
  have hR : ∀ t : Int32 × ea_M, t = (rZ, mZ) → ((0, rZ, mZ) : ea_O) = (0, t) := fun t h => by rw [h]
  unfold f_L_wind
  refine ev_aload_n (ea_at dt_L_wind 0 rfl) rfl ?_
  refine ev_iconst (ea_at dt_L_wind 1 rfl) ic_0 ?_
  refine ev_aload_n (ea_at dt_L_wind 2 rfl) rfl ?_
  refine ev_iload_n (ea_at dt_L_wind 3 rfl) rfl ?_
  refine ev_cxC (F1 := F_X11_wind) (fun zY hY => ea_runV (As := [.int p2]) (ea_at dt_L_wind 4 rfl) ml_L_34 mv_X11_wind (ok_X11_wind G p2 m  zY hY) sh_0 rfl rfl rfl (Nat.le_of_ble_eq_true rfl) rfl) rfl (fun kx m4 t hkx e q => ?_) (fun r2 m1 => ?_)
  · by_cases hk : kx = 1
    · rw [if_pos hk] at e
      subst hk
      refine ea_caught (pre := []) (name := "java/lang/IndexOutOfBoundsException") rfl (fun z hz => by cases hz) (by decide) (by decide) cl_L_24 cast_1 (ea_at dt_L_wind 8 rfl) (by decide) ?_
      refine (?_ : ea_E G F_L_wind (0, rZ, mZ) 13 [some (.ref 0), some (.int p2), some (.ref 287), none] [] m4 1 6 _ (fun t => t = (rZ, mZ))) t e q
      refine ev_iconst (ea_at dt_L_wind 9 rfl) ic_1 ?_
      exact ev_iret (ea_at dt_L_wind 10 rfl) rfl ⟨by decide, by decide⟩ (fun h => hR _ h)
    · rw [if_neg hk] at e
      cases e
  · refine ev_i2l (ea_at dt_L_wind 5 rfl) ?_
    refine ev_lastoreC (j := 0) (ea_at dt_L_wind 6 rfl) sh_287 (by decide) (by decide) (by decide) ?_
    refine ev_m (fun m3 => ?_)
    refine ev_goto (tgt := 15) (ea_at dt_L_wind 7 rfl) rfl ?_
    refine ev_iconst (ea_at dt_L_wind 11 rfl) ic_0 ?_
    exact ev_iret (ea_at dt_L_wind 12 rfl) rfl ⟨by decide, by decide⟩ (fun h => hR _ h)
def F_L_moves : ea_F := (ea_rm 13 4 24, cL_moves, RL, some .int, 8, [(0, 16, 19, 24), (0, 16, 23, 13)], 4, 24)
def D_L_moves : List (Nat × Instr × Nat) := [(0, .aload 6, 2), (2, .iconst 0, 1), (3, .aload_n 0, 1), (4, .iload_n 1, 1), (5, .iload_n 2, 1), (6, .iload_n 3, 1), (7, .iload 4, 2), (9, .iload 5, 2), (11, .invokevirtual 38, 3), (14, .i2l, 1), (15, .lastore, 1), (16, .goto 11, 3), (19, .astore 7, 2), (21, .iconst 1, 1), (22, .ireturn, 1), (23, .astore 7, 2), (25, .iconst 2, 1), (26, .ireturn, 1), (27, .iconst 0, 1), (28, .ireturn, 1)]
theorem dt_L_moves : ∀ q ∈ D_L_moves, decode cL_moves q.1 = .ok q.2 := by decide +kernel
theorem mv_L_moves : ea_MSH yL_moves (F_L_moves) 7 := ⟨⟨List.mem_append_right _ (List.mem_of_getElem? (i := 0) (by decide +kernel)), List.mem_append_right _ (List.mem_of_getElem? (i := 1055) (by decide +kernel)), ⟨by decide, by decide⟩, by decide +kernel⟩, List.mem_append_right _ (List.mem_of_getElem? (i := 1054) (by decide +kernel))⟩
def f_L_moves (p2 : Int32) (p3 : Int32) (p4 : Int32) (p5 : Int32) (p6 : Int32) (m : ea_M) : Option (Int32 × ea_M) :=
  ea_cx (f_X11_moves p2 p3 p4 p5 p6 m) (fun r2 m1 =>
  ea_bd (ea_st m1 287 0 r2) fun m3 =>
  some (0, m3)) (fun kx m4 => if kx = 1 then
  some (1, m4)
  else if kx = 2 then
  some (2, m4)
  else none)
set_option maxHeartbeats 300000 in
theorem ok_L_moves (G : ea_G) (p2 : Int32) (p3 : Int32) (p4 : Int32) (p5 : Int32) (p6 : Int32) (m : ea_M)  (rZ : Int32) (mZ : ea_M) (hZ : f_L_moves p2 p3 p4 p5 p6 m = some (rZ, mZ)) : ea_MetH G yL_moves F_L_moves [.ref 0, .int p2, .int p3, .int p4, .int p5, .int p6, .ref 287] m (0, rZ, mZ) := by
  refine ea_metH (F := F_L_moves) rfl rfl (Nat.le_of_ble_eq_true rfl) (by simp only [List.mem_cons, List.not_mem_nil, or_false]; intro v hv; rcases hv with rfl | rfl | rfl | rfl | rfl | rfl | rfl <;> rfl) ((?_ : ea_E G F_L_moves (0, rZ, mZ) 0 [some (.ref 0), some (.int p2), some (.int p3), some (.int p4), some (.int p5), some (.int p6), some (.ref 287), none] [] m 0 0 (f_L_moves p2 p3 p4 p5 p6 m) (fun t => t = (rZ, mZ))) (rZ, mZ) hZ rfl)
  have hR : ∀ t : Int32 × ea_M, t = (rZ, mZ) → ((0, rZ, mZ) : ea_O) = (0, t) := fun t h => by rw [h]
  unfold f_L_moves
  refine ev_aload (ea_at dt_L_moves 0 rfl) rfl ?_
  refine ev_iconst (ea_at dt_L_moves 1 rfl) ic_0 ?_
  refine ev_aload_n (ea_at dt_L_moves 2 rfl) rfl ?_
  refine ev_iload_n (ea_at dt_L_moves 3 rfl) rfl ?_
  refine ev_iload_n (ea_at dt_L_moves 4 rfl) rfl ?_
  refine ev_iload_n (ea_at dt_L_moves 5 rfl) rfl ?_
  refine ev_iload (ea_at dt_L_moves 6 rfl) rfl ?_
  refine ev_iload (ea_at dt_L_moves 7 rfl) rfl ?_
  refine ev_cxC (F1 := F_X11_moves) (fun zY hY => ea_runV (As := [.int p2, .int p3, .int p4, .int p5, .int p6]) (ea_at dt_L_moves 8 rfl) ml_L_38 mv_X11_moves (ok_X11_moves G p2 p3 p4 p5 p6 m  zY hY) sh_0 rfl rfl rfl (Nat.le_of_ble_eq_true rfl) rfl) rfl (fun kx m4 t hkx e q => ?_) (fun r2 m1 => ?_)
  · by_cases hk : kx = 1
    · rw [if_pos hk] at e
      subst hk
      refine ea_caught2 (pre := []) (name := "java/lang/IndexOutOfBoundsException") rfl (fun z hz => by cases hz) (by decide) (by decide) cl_L_24 cast_1 (ea_at dt_L_moves 12 rfl) (by decide) ?_
      refine (?_ : ea_E G F_L_moves (0, rZ, mZ) 21 [some (.ref 0), some (.int p2), some (.int p3), some (.int p4), some (.int p5), some (.int p6), some (.ref 287), none] [] m4 4 24 _ (fun t => t = (rZ, mZ))) t e q
      refine ev_iconst (ea_at dt_L_moves 13 rfl) ic_1 ?_
      exact ev_iret (ea_at dt_L_moves 14 rfl) rfl ⟨by decide, by decide⟩ (fun h => hR _ h)
    · rw [if_neg hk] at e
      by_cases hk : kx = 2
      · rw [if_pos hk] at e
        subst hk
        refine ea_caught2 (pre := [(0, 16, 19, 24)]) (name := "java/lang/IllegalArgumentException") rfl (fun z hz => by simp only [List.mem_cons, List.not_mem_nil, or_false] at hz; rcases hz with rfl <;> first | exact ⟨by decide, _, cl_L_24, by decide⟩) (by decide) (by decide) cl_L_13 cast_2 (ea_at dt_L_moves 15 rfl) (by decide) ?_
        refine (?_ : ea_E G F_L_moves (0, rZ, mZ) 25 [some (.ref 0), some (.int p2), some (.int p3), some (.int p4), some (.int p5), some (.int p6), some (.ref 287), none] [] m4 4 24 _ (fun t => t = (rZ, mZ))) t e q
        refine ev_iconst (ea_at dt_L_moves 16 rfl) ic_2 ?_
        exact ev_iret (ea_at dt_L_moves 17 rfl) rfl ⟨by decide, by decide⟩ (fun h => hR _ h)
      · rw [if_neg hk] at e
        cases e
  · refine ev_i2l (ea_at dt_L_moves 9 rfl) ?_
    refine ev_lastoreC (j := 0) (ea_at dt_L_moves 10 rfl) sh_287 (by decide) (by decide) (by decide) ?_
    refine ev_m (fun m3 => ?_)
    refine ev_goto (tgt := 27) (ea_at dt_L_moves 11 rfl) rfl ?_
    refine ev_iconst (ea_at dt_L_moves 18 rfl) ic_0 ?_
    exact ev_iret (ea_at dt_L_moves 19 rfl) rfl ⟨by decide, by decide⟩ (fun h => hR _ h)
def F_L_call : ea_F := (ea_rm 15 4 24, cL_call, RL, some .int, 6, [(0, 12, 15, 24), (0, 12, 19, 46)], 4, 24)
def D_L_call : List (Nat × Instr × Nat) := [(0, .aload 4, 2), (2, .iconst 0, 1), (3, .aload_n 0, 1), (4, .iload_n 1, 1), (5, .iload_n 2, 1), (6, .iload_n 3, 1), (7, .invokevirtual 42, 3), (10, .i2l, 1), (11, .lastore, 1), (12, .goto 11, 3), (15, .astore 5, 2), (17, .iconst 1, 1), (18, .ireturn, 1), (19, .astore 5, 2), (21, .iconst 2, 1), (22, .ireturn, 1), (23, .iconst 0, 1), (24, .ireturn, 1)]
theorem dt_L_call : ∀ q ∈ D_L_call, decode cL_call q.1 = .ok q.2 := by decide +kernel
theorem mv_L_call : ea_MSH yL_call (F_L_call) 5 := ⟨⟨List.mem_append_right _ (List.mem_of_getElem? (i := 0) (by decide +kernel)), List.mem_append_right _ (List.mem_of_getElem? (i := 1073) (by decide +kernel)), ⟨by decide, by decide⟩, by decide +kernel⟩, List.mem_append_right _ (List.mem_of_getElem? (i := 1072) (by decide +kernel))⟩
def f_L_call (p2 : Int32) (p3 : Int32) (p4 : Int32) (m : ea_M) : Option (Int32 × ea_M) :=
  ea_cx (f_X11_call p2 p3 p4 m) (fun r2 m1 =>
  ea_bd (ea_st m1 287 0 r2) fun m3 =>
  some (0, m3)) (fun kx m4 => if kx = 1 then
  some (1, m4)
  else if kx = 3 then
  some (2, m4)
  else none)
set_option maxHeartbeats 300000 in
theorem ok_L_call (G : ea_G) (p2 : Int32) (p3 : Int32) (p4 : Int32) (m : ea_M)  (rZ : Int32) (mZ : ea_M) (hZ : f_L_call p2 p3 p4 m = some (rZ, mZ)) : ea_MetH G yL_call F_L_call [.ref 0, .int p2, .int p3, .int p4, .ref 287] m (0, rZ, mZ) := by
  refine ea_metH (F := F_L_call) rfl rfl (Nat.le_of_ble_eq_true rfl) (by simp only [List.mem_cons, List.not_mem_nil, or_false]; intro v hv; rcases hv with rfl | rfl | rfl | rfl | rfl <;> rfl) ((?_ : ea_E G F_L_call (0, rZ, mZ) 0 [some (.ref 0), some (.int p2), some (.int p3), some (.int p4), some (.ref 287), none] [] m 0 0 (f_L_call p2 p3 p4 m) (fun t => t = (rZ, mZ))) (rZ, mZ) hZ rfl)
  have hR : ∀ t : Int32 × ea_M, t = (rZ, mZ) → ((0, rZ, mZ) : ea_O) = (0, t) := fun t h => by rw [h]
  unfold f_L_call
  refine ev_aload (ea_at dt_L_call 0 rfl) rfl ?_
  refine ev_iconst (ea_at dt_L_call 1 rfl) ic_0 ?_
  refine ev_aload_n (ea_at dt_L_call 2 rfl) rfl ?_
  refine ev_iload_n (ea_at dt_L_call 3 rfl) rfl ?_
  refine ev_iload_n (ea_at dt_L_call 4 rfl) rfl ?_
  refine ev_iload_n (ea_at dt_L_call 5 rfl) rfl ?_
  refine ev_cxC (F1 := F_X11_call) (fun zY hY => ea_runV (As := [.int p2, .int p3, .int p4]) (ea_at dt_L_call 6 rfl) ml_L_42 mv_X11_call (ok_X11_call G p2 p3 p4 m  zY hY) sh_0 rfl rfl rfl (Nat.le_of_ble_eq_true rfl) rfl) rfl (fun kx m4 t hkx e q => ?_) (fun r2 m1 => ?_)
  · by_cases hk : kx = 1
    · rw [if_pos hk] at e
      subst hk
      refine ea_caught2 (pre := []) (name := "java/lang/IndexOutOfBoundsException") rfl (fun z hz => by cases hz) (by decide) (by decide) cl_L_24 cast_1 (ea_at dt_L_call 10 rfl) (by decide) ?_
      refine (?_ : ea_E G F_L_call (0, rZ, mZ) 17 [some (.ref 0), some (.int p2), some (.int p3), some (.int p4), some (.ref 287), none] [] m4 4 24 _ (fun t => t = (rZ, mZ))) t e q
      refine ev_iconst (ea_at dt_L_call 11 rfl) ic_1 ?_
      exact ev_iret (ea_at dt_L_call 12 rfl) rfl ⟨by decide, by decide⟩ (fun h => hR _ h)
    · rw [if_neg hk] at e
      by_cases hk : kx = 3
      · rw [if_pos hk] at e
        subst hk
        refine ea_caught2 (pre := [(0, 12, 15, 24)]) (name := "java/lang/IllegalStateException") rfl (fun z hz => by simp only [List.mem_cons, List.not_mem_nil, or_false] at hz; rcases hz with rfl <;> first | exact ⟨by decide, _, cl_L_24, by decide⟩) (by decide) (by decide) cl_L_46 cast_3 (ea_at dt_L_call 13 rfl) (by decide) ?_
        refine (?_ : ea_E G F_L_call (0, rZ, mZ) 21 [some (.ref 0), some (.int p2), some (.int p3), some (.int p4), some (.ref 287), none] [] m4 4 24 _ (fun t => t = (rZ, mZ))) t e q
        refine ev_iconst (ea_at dt_L_call 14 rfl) ic_2 ?_
        exact ev_iret (ea_at dt_L_call 15 rfl) rfl ⟨by decide, by decide⟩ (fun h => hR _ h)
      · rw [if_neg hk] at e
        cases e
  · refine ev_i2l (ea_at dt_L_call 7 rfl) ?_
    refine ev_lastoreC (j := 0) (ea_at dt_L_call 8 rfl) sh_287 (by decide) (by decide) (by decide) ?_
    refine ev_m (fun m3 => ?_)
    refine ev_goto (tgt := 23) (ea_at dt_L_call 9 rfl) rfl ?_
    refine ev_iconst (ea_at dt_L_call 16 rfl) ic_0 ?_
    exact ev_iret (ea_at dt_L_call 17 rfl) rfl ⟨by decide, by decide⟩ (fun h => hR _ h)
def F_L_hour : ea_F := (ea_rm 12 1 6, cL_hour, RL, some .int, 4, [(0, 9, 12, 13)], 1, 6)
def D_L_hour : List (Nat × Instr × Nat) := [(0, .aload_n 2, 1), (1, .iconst 0, 1), (2, .aload_n 0, 1), (3, .iload_n 1, 1), (4, .invokevirtual 48, 3), (7, .i2l, 1), (8, .lastore, 1), (9, .goto 6, 3), (12, .astore_n 3, 1), (13, .iconst 1, 1), (14, .ireturn, 1), (15, .iconst 0, 1), (16, .ireturn, 1)]
theorem dt_L_hour : ∀ q ∈ D_L_hour, decode cL_hour q.1 = .ok q.2 := by decide +kernel
theorem mv_L_hour : ea_MSH yL_hour (F_L_hour) 3 := ⟨⟨List.mem_append_right _ (List.mem_of_getElem? (i := 0) (by decide +kernel)), List.mem_append_right _ (List.mem_of_getElem? (i := 1144) (by decide +kernel)), ⟨by decide, by decide⟩, by decide +kernel⟩, List.mem_append_right _ (List.mem_of_getElem? (i := 1143) (by decide +kernel))⟩
def f_L_hour (p2 : Int32) (m : ea_M) : Option (Int32 × ea_M) :=
  ea_cx (f_X11_hour p2 m) (fun r2 m1 =>
  ea_bd (ea_st m1 287 0 r2) fun m3 =>
  some (0, m3)) (fun kx m4 => if kx = 2 then
  some (1, m4)
  else none)
set_option maxHeartbeats 300000 in
theorem ok_L_hour (G : ea_G) (p2 : Int32) (m : ea_M)  (rZ : Int32) (mZ : ea_M) (hZ : f_L_hour p2 m = some (rZ, mZ)) : ea_MetH G yL_hour F_L_hour [.ref 0, .int p2, .ref 287] m (0, rZ, mZ) := by
  refine ea_metH (F := F_L_hour) rfl rfl (Nat.le_of_ble_eq_true rfl) (by simp only [List.mem_cons, List.not_mem_nil, or_false]; intro v hv; rcases hv with rfl | rfl | rfl <;> rfl) ((?_ : ea_E G F_L_hour (0, rZ, mZ) 0 [some (.ref 0), some (.int p2), some (.ref 287), none] [] m 0 0 (f_L_hour p2 m) (fun t => t = (rZ, mZ))) (rZ, mZ) hZ rfl)
  have hR : ∀ t : Int32 × ea_M, t = (rZ, mZ) → ((0, rZ, mZ) : ea_O) = (0, t) := fun t h => by rw [h]
  unfold f_L_hour
  refine ev_aload_n (ea_at dt_L_hour 0 rfl) rfl ?_
  refine ev_iconst (ea_at dt_L_hour 1 rfl) ic_0 ?_
  refine ev_aload_n (ea_at dt_L_hour 2 rfl) rfl ?_
  refine ev_iload_n (ea_at dt_L_hour 3 rfl) rfl ?_
  refine ev_cxC (F1 := F_X11_hour) (fun zY hY => ea_runV (As := [.int p2]) (ea_at dt_L_hour 4 rfl) ml_L_48 mv_X11_hour (ok_X11_hour G p2 m  zY hY) sh_0 rfl rfl rfl (Nat.le_of_ble_eq_true rfl) rfl) rfl (fun kx m4 t hkx e q => ?_) (fun r2 m1 => ?_)
  · by_cases hk : kx = 2
    · rw [if_pos hk] at e
      subst hk
      refine ea_caught (pre := []) (name := "java/lang/IllegalArgumentException") rfl (fun z hz => by cases hz) (by decide) (by decide) cl_L_13 cast_2 (ea_at dt_L_hour 8 rfl) (by decide) ?_
      refine (?_ : ea_E G F_L_hour (0, rZ, mZ) 13 [some (.ref 0), some (.int p2), some (.ref 287), none] [] m4 1 6 _ (fun t => t = (rZ, mZ))) t e q
      refine ev_iconst (ea_at dt_L_hour 9 rfl) ic_1 ?_
      exact ev_iret (ea_at dt_L_hour 10 rfl) rfl ⟨by decide, by decide⟩ (fun h => hR _ h)
    · rw [if_neg hk] at e
      cases e
  · refine ev_i2l (ea_at dt_L_hour 5 rfl) ?_
    refine ev_lastoreC (j := 0) (ea_at dt_L_hour 6 rfl) sh_287 (by decide) (by decide) (by decide) ?_
    refine ev_m (fun m3 => ?_)
    refine ev_goto (tgt := 15) (ea_at dt_L_hour 7 rfl) rfl ?_
    refine ev_iconst (ea_at dt_L_hour 11 rfl) ic_0 ?_
    exact ev_iret (ea_at dt_L_hour 12 rfl) rfl ⟨by decide, by decide⟩ (fun h => hR _ h)
def F_L_blow : ea_F := (ea_rm 12 2 12, cL_blow, RL, some .int, 5, [(0, 10, 13, 24), (0, 10, 17, 13)], 2, 12)
def D_L_blow : List (Nat × Instr × Nat) := [(0, .aload_n 3, 1), (1, .iconst 0, 1), (2, .aload_n 0, 1), (3, .iload_n 1, 1), (4, .iload_n 2, 1), (5, .invokevirtual 51, 3), (8, .i2l, 1), (9, .lastore, 1), (10, .goto 11, 3), (13, .astore 4, 2), (15, .iconst 1, 1), (16, .ireturn, 1), (17, .astore 4, 2), (19, .iconst 2, 1), (20, .ireturn, 1), (21, .iconst 0, 1), (22, .ireturn, 1)]
theorem dt_L_blow : ∀ q ∈ D_L_blow, decode cL_blow q.1 = .ok q.2 := by decide +kernel
theorem mv_L_blow : ea_MSH yL_blow (F_L_blow) 4 := ⟨⟨List.mem_append_right _ (List.mem_of_getElem? (i := 0) (by decide +kernel)), List.mem_append_right _ (List.mem_of_getElem? (i := 1151) (by decide +kernel)), ⟨by decide, by decide⟩, by decide +kernel⟩, List.mem_append_right _ (List.mem_of_getElem? (i := 1150) (by decide +kernel))⟩
def f_L_blow (p2 : Int32) (p3 : Int32) (m : ea_M) : Option (Int32 × ea_M) :=
  ea_cx (f_X11_blow p2 p3 m) (fun r2 m1 =>
  ea_bd (ea_st m1 287 0 r2) fun m3 =>
  some (0, m3)) (fun kx m4 => if kx = 1 then
  some (1, m4)
  else if kx = 2 then
  some (2, m4)
  else none)
set_option maxHeartbeats 300000 in
theorem ok_L_blow (G : ea_G) (p2 : Int32) (p3 : Int32) (m : ea_M)  (rZ : Int32) (mZ : ea_M) (hZ : f_L_blow p2 p3 m = some (rZ, mZ)) : ea_MetH G yL_blow F_L_blow [.ref 0, .int p2, .int p3, .ref 287] m (0, rZ, mZ) := by
  refine ea_metH (F := F_L_blow) rfl rfl (Nat.le_of_ble_eq_true rfl) (by simp only [List.mem_cons, List.not_mem_nil, or_false]; intro v hv; rcases hv with rfl | rfl | rfl | rfl <;> rfl) ((?_ : ea_E G F_L_blow (0, rZ, mZ) 0 [some (.ref 0), some (.int p2), some (.int p3), some (.ref 287), none] [] m 0 0 (f_L_blow p2 p3 m) (fun t => t = (rZ, mZ))) (rZ, mZ) hZ rfl)
  have hR : ∀ t : Int32 × ea_M, t = (rZ, mZ) → ((0, rZ, mZ) : ea_O) = (0, t) := fun t h => by rw [h]
  unfold f_L_blow
  refine ev_aload_n (ea_at dt_L_blow 0 rfl) rfl ?_
  refine ev_iconst (ea_at dt_L_blow 1 rfl) ic_0 ?_
  refine ev_aload_n (ea_at dt_L_blow 2 rfl) rfl ?_
  refine ev_iload_n (ea_at dt_L_blow 3 rfl) rfl ?_
  refine ev_iload_n (ea_at dt_L_blow 4 rfl) rfl ?_
  refine ev_cxC (F1 := F_X11_blow) (fun zY hY => ea_runV (As := [.int p2, .int p3]) (ea_at dt_L_blow 5 rfl) ml_L_51 mv_X11_blow (ok_X11_blow G p2 p3 m  zY hY) sh_0 rfl rfl rfl (Nat.le_of_ble_eq_true rfl) rfl) rfl (fun kx m4 t hkx e q => ?_) (fun r2 m1 => ?_)
  · by_cases hk : kx = 1
    · rw [if_pos hk] at e
      subst hk
      refine ea_caught2 (pre := []) (name := "java/lang/IndexOutOfBoundsException") rfl (fun z hz => by cases hz) (by decide) (by decide) cl_L_24 cast_1 (ea_at dt_L_blow 9 rfl) (by decide) ?_
      refine (?_ : ea_E G F_L_blow (0, rZ, mZ) 15 [some (.ref 0), some (.int p2), some (.int p3), some (.ref 287), none] [] m4 2 12 _ (fun t => t = (rZ, mZ))) t e q
      refine ev_iconst (ea_at dt_L_blow 10 rfl) ic_1 ?_
      exact ev_iret (ea_at dt_L_blow 11 rfl) rfl ⟨by decide, by decide⟩ (fun h => hR _ h)
    · rw [if_neg hk] at e
      by_cases hk : kx = 2
      · rw [if_pos hk] at e
        subst hk
        refine ea_caught2 (pre := [(0, 10, 13, 24)]) (name := "java/lang/IllegalArgumentException") rfl (fun z hz => by simp only [List.mem_cons, List.not_mem_nil, or_false] at hz; rcases hz with rfl <;> first | exact ⟨by decide, _, cl_L_24, by decide⟩) (by decide) (by decide) cl_L_13 cast_2 (ea_at dt_L_blow 12 rfl) (by decide) ?_
        refine (?_ : ea_E G F_L_blow (0, rZ, mZ) 19 [some (.ref 0), some (.int p2), some (.int p3), some (.ref 287), none] [] m4 2 12 _ (fun t => t = (rZ, mZ))) t e q
        refine ev_iconst (ea_at dt_L_blow 13 rfl) ic_2 ?_
        exact ev_iret (ea_at dt_L_blow 14 rfl) rfl ⟨by decide, by decide⟩ (fun h => hR _ h)
      · rw [if_neg hk] at e
        cases e
  · refine ev_i2l (ea_at dt_L_blow 6 rfl) ?_
    refine ev_lastoreC (j := 0) (ea_at dt_L_blow 7 rfl) sh_287 (by decide) (by decide) (by decide) ?_
    refine ev_m (fun m3 => ?_)
    refine ev_goto (tgt := 21) (ea_at dt_L_blow 8 rfl) rfl ?_
    refine ev_iconst (ea_at dt_L_blow 15 rfl) ic_0 ?_
    exact ev_iret (ea_at dt_L_blow 16 rfl) rfl ⟨by decide, by decide⟩ (fun h => hR _ h)
def F_L_give : ea_F := (ea_rm 12 5 30, cL_give, RL, some .int, 7, [(0, 14, 17, 24), (0, 14, 21, 13)], 5, 30)
def D_L_give : List (Nat × Instr × Nat) := [(0, .aload 5, 2), (2, .iconst 0, 1), (3, .aload_n 0, 1), (4, .iload_n 1, 1), (5, .iload_n 2, 1), (6, .iload_n 3, 1), (7, .iload 4, 2), (9, .invokevirtual 54, 3), (12, .i2l, 1), (13, .lastore, 1), (14, .goto 11, 3), (17, .astore 6, 2), (19, .iconst 1, 1), (20, .ireturn, 1), (21, .astore 6, 2), (23, .iconst 2, 1), (24, .ireturn, 1), (25, .iconst 0, 1), (26, .ireturn, 1)]
theorem dt_L_give : ∀ q ∈ D_L_give, decode cL_give q.1 = .ok q.2 := by decide +kernel
theorem mv_L_give : ea_MSH yL_give (F_L_give) 6 := ⟨⟨List.mem_append_right _ (List.mem_of_getElem? (i := 0) (by decide +kernel)), List.mem_append_right _ (List.mem_of_getElem? (i := 1158) (by decide +kernel)), ⟨by decide, by decide⟩, by decide +kernel⟩, List.mem_append_right _ (List.mem_of_getElem? (i := 1157) (by decide +kernel))⟩
def f_L_give (p2 : Int32) (p3 : Int32) (p4 : Int32) (p5 : Int32) (m : ea_M) : Option (Int32 × ea_M) :=
  ea_cx (f_X11_give p2 p3 p4 p5 m) (fun r2 m1 =>
  ea_bd (ea_st m1 287 0 r2) fun m3 =>
  some (0, m3)) (fun kx m4 => if kx = 1 then
  some (1, m4)
  else if kx = 2 then
  some (2, m4)
  else none)
set_option maxHeartbeats 300000 in
theorem ok_L_give (G : ea_G) (p2 : Int32) (p3 : Int32) (p4 : Int32) (p5 : Int32) (m : ea_M)  (rZ : Int32) (mZ : ea_M) (hZ : f_L_give p2 p3 p4 p5 m = some (rZ, mZ)) : ea_MetH G yL_give F_L_give [.ref 0, .int p2, .int p3, .int p4, .int p5, .ref 287] m (0, rZ, mZ) := by
  refine ea_metH (F := F_L_give) rfl rfl (Nat.le_of_ble_eq_true rfl) (by simp only [List.mem_cons, List.not_mem_nil, or_false]; intro v hv; rcases hv with rfl | rfl | rfl | rfl | rfl | rfl <;> rfl) ((?_ : ea_E G F_L_give (0, rZ, mZ) 0 [some (.ref 0), some (.int p2), some (.int p3), some (.int p4), some (.int p5), some (.ref 287), none] [] m 0 0 (f_L_give p2 p3 p4 p5 m) (fun t => t = (rZ, mZ))) (rZ, mZ) hZ rfl)
  have hR : ∀ t : Int32 × ea_M, t = (rZ, mZ) → ((0, rZ, mZ) : ea_O) = (0, t) := fun t h => by rw [h]
  unfold f_L_give
  refine ev_aload (ea_at dt_L_give 0 rfl) rfl ?_
  refine ev_iconst (ea_at dt_L_give 1 rfl) ic_0 ?_
  refine ev_aload_n (ea_at dt_L_give 2 rfl) rfl ?_
  refine ev_iload_n (ea_at dt_L_give 3 rfl) rfl ?_
  refine ev_iload_n (ea_at dt_L_give 4 rfl) rfl ?_
  refine ev_iload_n (ea_at dt_L_give 5 rfl) rfl ?_
  refine ev_iload (ea_at dt_L_give 6 rfl) rfl ?_
  refine ev_cxC (F1 := F_X11_give) (fun zY hY => ea_runV (As := [.int p2, .int p3, .int p4, .int p5]) (ea_at dt_L_give 7 rfl) ml_L_54 mv_X11_give (ok_X11_give G p2 p3 p4 p5 m  zY hY) sh_0 rfl rfl rfl (Nat.le_of_ble_eq_true rfl) rfl) rfl (fun kx m4 t hkx e q => ?_) (fun r2 m1 => ?_)
  · by_cases hk : kx = 1
    · rw [if_pos hk] at e
      subst hk
      refine ea_caught2 (pre := []) (name := "java/lang/IndexOutOfBoundsException") rfl (fun z hz => by cases hz) (by decide) (by decide) cl_L_24 cast_1 (ea_at dt_L_give 11 rfl) (by decide) ?_
      refine (?_ : ea_E G F_L_give (0, rZ, mZ) 19 [some (.ref 0), some (.int p2), some (.int p3), some (.int p4), some (.int p5), some (.ref 287), none] [] m4 5 30 _ (fun t => t = (rZ, mZ))) t e q
      refine ev_iconst (ea_at dt_L_give 12 rfl) ic_1 ?_
      exact ev_iret (ea_at dt_L_give 13 rfl) rfl ⟨by decide, by decide⟩ (fun h => hR _ h)
    · rw [if_neg hk] at e
      by_cases hk : kx = 2
      · rw [if_pos hk] at e
        subst hk
        refine ea_caught2 (pre := [(0, 14, 17, 24)]) (name := "java/lang/IllegalArgumentException") rfl (fun z hz => by simp only [List.mem_cons, List.not_mem_nil, or_false] at hz; rcases hz with rfl <;> first | exact ⟨by decide, _, cl_L_24, by decide⟩) (by decide) (by decide) cl_L_13 cast_2 (ea_at dt_L_give 14 rfl) (by decide) ?_
        refine (?_ : ea_E G F_L_give (0, rZ, mZ) 23 [some (.ref 0), some (.int p2), some (.int p3), some (.int p4), some (.int p5), some (.ref 287), none] [] m4 5 30 _ (fun t => t = (rZ, mZ))) t e q
        refine ev_iconst (ea_at dt_L_give 15 rfl) ic_2 ?_
        exact ev_iret (ea_at dt_L_give 16 rfl) rfl ⟨by decide, by decide⟩ (fun h => hR _ h)
      · rw [if_neg hk] at e
        cases e
  · refine ev_i2l (ea_at dt_L_give 8 rfl) ?_
    refine ev_lastoreC (j := 0) (ea_at dt_L_give 9 rfl) sh_287 (by decide) (by decide) (by decide) ?_
    refine ev_m (fun m3 => ?_)
    refine ev_goto (tgt := 25) (ea_at dt_L_give 10 rfl) rfl ?_
    refine ev_iconst (ea_at dt_L_give 17 rfl) ic_0 ?_
    exact ev_iret (ea_at dt_L_give 18 rfl) rfl ⟨by decide, by decide⟩ (fun h => hR _ h)
def F_L_appeal : ea_F := (ea_rm 12 2 12, cL_appeal, RL, some .int, 4, [(0, 9, 12, 24), (0, 9, 15, 46)], 2, 12)
def D_L_appeal : List (Nat × Instr × Nat) := [(0, .aload_n 2, 1), (1, .iconst 0, 1), (2, .aload_n 0, 1), (3, .iload_n 1, 1), (4, .invokevirtual 58, 3), (7, .i2l, 1), (8, .lastore, 1), (9, .goto 9, 3), (12, .astore_n 3, 1), (13, .iconst 1, 1), (14, .ireturn, 1), (15, .astore_n 3, 1), (16, .iconst 2, 1), (17, .ireturn, 1), (18, .iconst 0, 1), (19, .ireturn, 1)]
theorem dt_L_appeal : ∀ q ∈ D_L_appeal, decode cL_appeal q.1 = .ok q.2 := by decide +kernel
theorem mv_L_appeal : ea_MSH yL_appeal (F_L_appeal) 3 := ⟨⟨List.mem_append_right _ (List.mem_of_getElem? (i := 0) (by decide +kernel)), List.mem_append_right _ (List.mem_of_getElem? (i := 1166) (by decide +kernel)), ⟨by decide, by decide⟩, by decide +kernel⟩, List.mem_append_right _ (List.mem_of_getElem? (i := 1165) (by decide +kernel))⟩
def f_L_appeal (p2 : Int32) (m : ea_M) : Option (Int32 × ea_M) :=
  ea_cx (f_X11_appeal p2 m) (fun r2 m1 =>
  ea_bd (ea_st m1 287 0 r2) fun m3 =>
  some (0, m3)) (fun kx m4 => if kx = 1 then
  some (1, m4)
  else if kx = 3 then
  some (2, m4)
  else none)
set_option maxHeartbeats 300000 in
theorem ok_L_appeal (G : ea_G) (p2 : Int32) (m : ea_M)  (rZ : Int32) (mZ : ea_M) (hZ : f_L_appeal p2 m = some (rZ, mZ)) : ea_MetH G yL_appeal F_L_appeal [.ref 0, .int p2, .ref 287] m (0, rZ, mZ) := by
  refine ea_metH (F := F_L_appeal) rfl rfl (Nat.le_of_ble_eq_true rfl) (by simp only [List.mem_cons, List.not_mem_nil, or_false]; intro v hv; rcases hv with rfl | rfl | rfl <;> rfl) ((?_ : ea_E G F_L_appeal (0, rZ, mZ) 0 [some (.ref 0), some (.int p2), some (.ref 287), none] [] m 0 0 (f_L_appeal p2 m) (fun t => t = (rZ, mZ))) (rZ, mZ) hZ rfl)
  have hR : ∀ t : Int32 × ea_M, t = (rZ, mZ) → ((0, rZ, mZ) : ea_O) = (0, t) := fun t h => by rw [h]
  unfold f_L_appeal
  refine ev_aload_n (ea_at dt_L_appeal 0 rfl) rfl ?_
  refine ev_iconst (ea_at dt_L_appeal 1 rfl) ic_0 ?_
  refine ev_aload_n (ea_at dt_L_appeal 2 rfl) rfl ?_
  refine ev_iload_n (ea_at dt_L_appeal 3 rfl) rfl ?_
  refine ev_cxC (F1 := F_X11_appeal) (fun zY hY => ea_runV (As := [.int p2]) (ea_at dt_L_appeal 4 rfl) ml_L_58 mv_X11_appeal (ok_X11_appeal G p2 m  zY hY) sh_0 rfl rfl rfl (Nat.le_of_ble_eq_true rfl) rfl) rfl (fun kx m4 t hkx e q => ?_) (fun r2 m1 => ?_)
  · by_cases hk : kx = 1
    · rw [if_pos hk] at e
      subst hk
      refine ea_caught (pre := []) (name := "java/lang/IndexOutOfBoundsException") rfl (fun z hz => by cases hz) (by decide) (by decide) cl_L_24 cast_1 (ea_at dt_L_appeal 8 rfl) (by decide) ?_
      refine (?_ : ea_E G F_L_appeal (0, rZ, mZ) 13 [some (.ref 0), some (.int p2), some (.ref 287), none] [] m4 2 12 _ (fun t => t = (rZ, mZ))) t e q
      refine ev_iconst (ea_at dt_L_appeal 9 rfl) ic_1 ?_
      exact ev_iret (ea_at dt_L_appeal 10 rfl) rfl ⟨by decide, by decide⟩ (fun h => hR _ h)
    · rw [if_neg hk] at e
      by_cases hk : kx = 3
      · rw [if_pos hk] at e
        subst hk
        refine ea_caught (pre := [(0, 9, 12, 24)]) (name := "java/lang/IllegalStateException") rfl (fun z hz => by simp only [List.mem_cons, List.not_mem_nil, or_false] at hz; rcases hz with rfl <;> first | exact ⟨by decide, _, cl_L_24, by decide⟩) (by decide) (by decide) cl_L_46 cast_3 (ea_at dt_L_appeal 11 rfl) (by decide) ?_
        refine (?_ : ea_E G F_L_appeal (0, rZ, mZ) 16 [some (.ref 0), some (.int p2), some (.ref 287), none] [] m4 2 12 _ (fun t => t = (rZ, mZ))) t e q
        refine ev_iconst (ea_at dt_L_appeal 12 rfl) ic_2 ?_
        exact ev_iret (ea_at dt_L_appeal 13 rfl) rfl ⟨by decide, by decide⟩ (fun h => hR _ h)
      · rw [if_neg hk] at e
        cases e
  · refine ev_i2l (ea_at dt_L_appeal 5 rfl) ?_
    refine ev_lastoreC (j := 0) (ea_at dt_L_appeal 6 rfl) sh_287 (by decide) (by decide) (by decide) ?_
    refine ev_m (fun m3 => ?_)
    refine ev_goto (tgt := 18) (ea_at dt_L_appeal 7 rfl) rfl ?_
    refine ev_iconst (ea_at dt_L_appeal 14 rfl) ic_0 ?_
    exact ev_iret (ea_at dt_L_appeal 15 rfl) rfl ⟨by decide, by decide⟩ (fun h => hR _ h)
def F_L_weeks : ea_F := (ea_rm 12 1 6, cL_weeks, RL, some .int, 4, [(0, 9, 12, 13)], 1, 6)
def D_L_weeks : List (Nat × Instr × Nat) := [(0, .aload_n 2, 1), (1, .iconst 0, 1), (2, .aload_n 0, 1), (3, .iload_n 1, 1), (4, .invokevirtual 61, 3), (7, .i2l, 1), (8, .lastore, 1), (9, .goto 6, 3), (12, .astore_n 3, 1), (13, .iconst 1, 1), (14, .ireturn, 1), (15, .iconst 0, 1), (16, .ireturn, 1)]
theorem dt_L_weeks : ∀ q ∈ D_L_weeks, decode cL_weeks q.1 = .ok q.2 := by decide +kernel
theorem mv_L_weeks : ea_MSH yL_weeks (F_L_weeks) 3 := ⟨⟨List.mem_append_right _ (List.mem_of_getElem? (i := 0) (by decide +kernel)), List.mem_append_right _ (List.mem_of_getElem? (i := 1174) (by decide +kernel)), ⟨by decide, by decide⟩, by decide +kernel⟩, List.mem_append_right _ (List.mem_of_getElem? (i := 1173) (by decide +kernel))⟩
def f_L_weeks (p2 : Int32) (m : ea_M) : Option (Int32 × ea_M) :=
  ea_cx (f_X11_weeks p2 m) (fun r2 m1 =>
  ea_bd (ea_st m1 287 0 r2) fun m3 =>
  some (0, m3)) (fun kx m4 => if kx = 2 then
  some (1, m4)
  else none)
set_option maxHeartbeats 300000 in
theorem ok_L_weeks (G : ea_G) (p2 : Int32) (m : ea_M)  (rZ : Int32) (mZ : ea_M) (hZ : f_L_weeks p2 m = some (rZ, mZ)) : ea_MetH G yL_weeks F_L_weeks [.ref 0, .int p2, .ref 287] m (0, rZ, mZ) := by
  refine ea_metH (F := F_L_weeks) rfl rfl (Nat.le_of_ble_eq_true rfl) (by simp only [List.mem_cons, List.not_mem_nil, or_false]; intro v hv; rcases hv with rfl | rfl | rfl <;> rfl) ((?_ : ea_E G F_L_weeks (0, rZ, mZ) 0 [some (.ref 0), some (.int p2), some (.ref 287), none] [] m 0 0 (f_L_weeks p2 m) (fun t => t = (rZ, mZ))) (rZ, mZ) hZ rfl)
  have hR : ∀ t : Int32 × ea_M, t = (rZ, mZ) → ((0, rZ, mZ) : ea_O) = (0, t) := fun t h => by rw [h]
  unfold f_L_weeks
  refine ev_aload_n (ea_at dt_L_weeks 0 rfl) rfl ?_
  refine ev_iconst (ea_at dt_L_weeks 1 rfl) ic_0 ?_
  refine ev_aload_n (ea_at dt_L_weeks 2 rfl) rfl ?_
  refine ev_iload_n (ea_at dt_L_weeks 3 rfl) rfl ?_
  refine ev_cxC (F1 := F_X11_weeks) (fun zY hY => ea_runV (As := [.int p2]) (ea_at dt_L_weeks 4 rfl) ml_L_61 mv_X11_weeks (ok_X11_weeks G p2 m  zY hY) sh_0 rfl rfl rfl (Nat.le_of_ble_eq_true rfl) rfl) rfl (fun kx m4 t hkx e q => ?_) (fun r2 m1 => ?_)
  · by_cases hk : kx = 2
    · rw [if_pos hk] at e
      subst hk
      refine ea_caught (pre := []) (name := "java/lang/IllegalArgumentException") rfl (fun z hz => by cases hz) (by decide) (by decide) cl_L_13 cast_2 (ea_at dt_L_weeks 8 rfl) (by decide) ?_
      refine (?_ : ea_E G F_L_weeks (0, rZ, mZ) 13 [some (.ref 0), some (.int p2), some (.ref 287), none] [] m4 1 6 _ (fun t => t = (rZ, mZ))) t e q
      refine ev_iconst (ea_at dt_L_weeks 9 rfl) ic_1 ?_
      exact ev_iret (ea_at dt_L_weeks 10 rfl) rfl ⟨by decide, by decide⟩ (fun h => hR _ h)
    · rw [if_neg hk] at e
      cases e
  · refine ev_i2l (ea_at dt_L_weeks 5 rfl) ?_
    refine ev_lastoreC (j := 0) (ea_at dt_L_weeks 6 rfl) sh_287 (by decide) (by decide) (by decide) ?_
    refine ev_m (fun m3 => ?_)
    refine ev_goto (tgt := 15) (ea_at dt_L_weeks 7 rfl) rfl ?_
    refine ev_iconst (ea_at dt_L_weeks 11 rfl) ic_0 ?_
    exact ev_iret (ea_at dt_L_weeks 12 rfl) rfl ⟨by decide, by decide⟩ (fun h => hR _ h)
def F_L_ways : ea_F := (ea_rm 16 2 12, cL_ways, RL, some .int, 5, [(0, 10, 13, 24), (0, 10, 17, 26)], 2, 12)
def D_L_ways : List (Nat × Instr × Nat) := [(0, .aload_n 3, 1), (1, .iconst 0, 1), (2, .aload_n 0, 1), (3, .iload_n 1, 1), (4, .iload_n 2, 1), (5, .invokevirtual 64, 3), (8, .i2l, 1), (9, .lastore, 1), (10, .goto 11, 3), (13, .astore 4, 2), (15, .iconst 1, 1), (16, .ireturn, 1), (17, .astore 4, 2), (19, .iconst 2, 1), (20, .ireturn, 1), (21, .iconst 0, 1), (22, .ireturn, 1)]
theorem dt_L_ways : ∀ q ∈ D_L_ways, decode cL_ways q.1 = .ok q.2 := by decide +kernel
theorem mv_L_ways : ea_MSH yL_ways (F_L_ways) 4 := ⟨⟨List.mem_append_right _ (List.mem_of_getElem? (i := 0) (by decide +kernel)), List.mem_append_right _ (List.mem_of_getElem? (i := 1181) (by decide +kernel)), ⟨by decide, by decide⟩, by decide +kernel⟩, List.mem_append_right _ (List.mem_of_getElem? (i := 1180) (by decide +kernel))⟩
def f_L_ways (p2 : Int32) (p3 : Int32) (m : ea_M) : Option (Int32 × ea_M) :=
  ea_cx (f_X11_ways p2 p3 m) (fun r2 m1 =>
  ea_bd (ea_st m1 287 0 r2) fun m3 =>
  some (0, m3)) (fun kx m4 => if kx = 1 then
  some (1, m4)
  else if kx = 4 then
  some (2, m4)
  else none)
set_option maxHeartbeats 300000 in
theorem ok_L_ways (G : ea_G) (p2 : Int32) (p3 : Int32) (m : ea_M)  (rZ : Int32) (mZ : ea_M) (hZ : f_L_ways p2 p3 m = some (rZ, mZ)) : ea_MetH G yL_ways F_L_ways [.ref 0, .int p2, .int p3, .ref 287] m (0, rZ, mZ) := by
  refine ea_metH (F := F_L_ways) rfl rfl (Nat.le_of_ble_eq_true rfl) (by simp only [List.mem_cons, List.not_mem_nil, or_false]; intro v hv; rcases hv with rfl | rfl | rfl | rfl <;> rfl) ((?_ : ea_E G F_L_ways (0, rZ, mZ) 0 [some (.ref 0), some (.int p2), some (.int p3), some (.ref 287), none] [] m 0 0 (f_L_ways p2 p3 m) (fun t => t = (rZ, mZ))) (rZ, mZ) hZ rfl)
  have hR : ∀ t : Int32 × ea_M, t = (rZ, mZ) → ((0, rZ, mZ) : ea_O) = (0, t) := fun t h => by rw [h]
  unfold f_L_ways
  refine ev_aload_n (ea_at dt_L_ways 0 rfl) rfl ?_
  refine ev_iconst (ea_at dt_L_ways 1 rfl) ic_0 ?_
  refine ev_aload_n (ea_at dt_L_ways 2 rfl) rfl ?_
  refine ev_iload_n (ea_at dt_L_ways 3 rfl) rfl ?_
  refine ev_iload_n (ea_at dt_L_ways 4 rfl) rfl ?_
  refine ev_cxC (F1 := F_X11_ways) (fun zY hY => ea_runV (As := [.int p2, .int p3]) (ea_at dt_L_ways 5 rfl) ml_L_64 mv_X11_ways (ok_X11_ways G p2 p3 m  zY hY) sh_0 rfl rfl rfl (Nat.le_of_ble_eq_true rfl) rfl) rfl (fun kx m4 t hkx e q => ?_) (fun r2 m1 => ?_)
  · by_cases hk : kx = 1
    · rw [if_pos hk] at e
      subst hk
      refine ea_caught2 (pre := []) (name := "java/lang/IndexOutOfBoundsException") rfl (fun z hz => by cases hz) (by decide) (by decide) cl_L_24 cast_1 (ea_at dt_L_ways 9 rfl) (by decide) ?_
      refine (?_ : ea_E G F_L_ways (0, rZ, mZ) 15 [some (.ref 0), some (.int p2), some (.int p3), some (.ref 287), none] [] m4 2 12 _ (fun t => t = (rZ, mZ))) t e q
      refine ev_iconst (ea_at dt_L_ways 10 rfl) ic_1 ?_
      exact ev_iret (ea_at dt_L_ways 11 rfl) rfl ⟨by decide, by decide⟩ (fun h => hR _ h)
    · rw [if_neg hk] at e
      by_cases hk : kx = 4
      · rw [if_pos hk] at e
        subst hk
        refine ea_caught2 (pre := [(0, 10, 13, 24)]) (name := "java/util/NoSuchElementException") rfl (fun z hz => by simp only [List.mem_cons, List.not_mem_nil, or_false] at hz; rcases hz with rfl <;> first | exact ⟨by decide, _, cl_L_24, by decide⟩) (by decide) (by decide) cl_L_26 cast_4 (ea_at dt_L_ways 12 rfl) (by decide) ?_
        refine (?_ : ea_E G F_L_ways (0, rZ, mZ) 19 [some (.ref 0), some (.int p2), some (.int p3), some (.ref 287), none] [] m4 2 12 _ (fun t => t = (rZ, mZ))) t e q
        refine ev_iconst (ea_at dt_L_ways 13 rfl) ic_2 ?_
        exact ev_iret (ea_at dt_L_ways 14 rfl) rfl ⟨by decide, by decide⟩ (fun h => hR _ h)
      · rw [if_neg hk] at e
        cases e
  · refine ev_i2l (ea_at dt_L_ways 6 rfl) ?_
    refine ev_lastoreC (j := 0) (ea_at dt_L_ways 7 rfl) sh_287 (by decide) (by decide) (by decide) ?_
    refine ev_m (fun m3 => ?_)
    refine ev_goto (tgt := 21) (ea_at dt_L_ways 8 rfl) rfl ?_
    refine ev_iconst (ea_at dt_L_ways 15 rfl) ic_0 ?_
    exact ev_iret (ea_at dt_L_ways 16 rfl) rfl ⟨by decide, by decide⟩ (fun h => hR _ h)
def F_L_lands : ea_F := (ea_rm 16 2 12, cL_lands, RL, some .int, 5, [(0, 10, 13, 24)], 2, 12)
def D_L_lands : List (Nat × Instr × Nat) := [(0, .aload_n 3, 1), (1, .iconst 0, 1), (2, .aload_n 0, 1), (3, .iload_n 1, 1), (4, .iload_n 2, 1), (5, .invokevirtual 67, 3), (8, .i2l, 1), (9, .lastore, 1), (10, .goto 7, 3), (13, .astore 4, 2), (15, .iconst 1, 1), (16, .ireturn, 1), (17, .iconst 0, 1), (18, .ireturn, 1)]
theorem dt_L_lands : ∀ q ∈ D_L_lands, decode cL_lands q.1 = .ok q.2 := by decide +kernel
theorem mv_L_lands : ea_MSH yL_lands (F_L_lands) 4 := ⟨⟨List.mem_append_right _ (List.mem_of_getElem? (i := 0) (by decide +kernel)), List.mem_append_right _ (List.mem_of_getElem? (i := 1192) (by decide +kernel)), ⟨by decide, by decide⟩, by decide +kernel⟩, List.mem_append_right _ (List.mem_of_getElem? (i := 1191) (by decide +kernel))⟩
def f_L_lands (p2 : Int32) (p3 : Int32) (m : ea_M) : Option (Int32 × ea_M) :=
  ea_cx (f_X11_lands p2 p3 m) (fun r2 m1 =>
  ea_bd (ea_st m1 287 0 r2) fun m3 =>
  some (0, m3)) (fun kx m4 => if kx = 1 then
  some (1, m4)
  else none)
set_option maxHeartbeats 300000 in
theorem ok_L_lands (G : ea_G) (p2 : Int32) (p3 : Int32) (m : ea_M)  (rZ : Int32) (mZ : ea_M) (hZ : f_L_lands p2 p3 m = some (rZ, mZ)) : ea_MetH G yL_lands F_L_lands [.ref 0, .int p2, .int p3, .ref 287] m (0, rZ, mZ) := by
  refine ea_metH (F := F_L_lands) rfl rfl (Nat.le_of_ble_eq_true rfl) (by simp only [List.mem_cons, List.not_mem_nil, or_false]; intro v hv; rcases hv with rfl | rfl | rfl | rfl <;> rfl) ((?_ : ea_E G F_L_lands (0, rZ, mZ) 0 [some (.ref 0), some (.int p2), some (.int p3), some (.ref 287), none] [] m 0 0 (f_L_lands p2 p3 m) (fun t => t = (rZ, mZ))) (rZ, mZ) hZ rfl)
  have hR : ∀ t : Int32 × ea_M, t = (rZ, mZ) → ((0, rZ, mZ) : ea_O) = (0, t) := fun t h => by rw [h]
  unfold f_L_lands
  refine ev_aload_n (ea_at dt_L_lands 0 rfl) rfl ?_
  refine ev_iconst (ea_at dt_L_lands 1 rfl) ic_0 ?_
  refine ev_aload_n (ea_at dt_L_lands 2 rfl) rfl ?_
  refine ev_iload_n (ea_at dt_L_lands 3 rfl) rfl ?_
  refine ev_iload_n (ea_at dt_L_lands 4 rfl) rfl ?_
  refine ev_cxC (F1 := F_X11_lands) (fun zY hY => ea_runV (As := [.int p2, .int p3]) (ea_at dt_L_lands 5 rfl) ml_L_67 mv_X11_lands (ok_X11_lands G p2 p3 m  zY hY) sh_0 rfl rfl rfl (Nat.le_of_ble_eq_true rfl) rfl) rfl (fun kx m4 t hkx e q => ?_) (fun r2 m1 => ?_)
  · by_cases hk : kx = 1
    · rw [if_pos hk] at e
      subst hk
      refine ea_caught2 (pre := []) (name := "java/lang/IndexOutOfBoundsException") rfl (fun z hz => by cases hz) (by decide) (by decide) cl_L_24 cast_1 (ea_at dt_L_lands 9 rfl) (by decide) ?_
      refine (?_ : ea_E G F_L_lands (0, rZ, mZ) 15 [some (.ref 0), some (.int p2), some (.int p3), some (.ref 287), none] [] m4 2 12 _ (fun t => t = (rZ, mZ))) t e q
      refine ev_iconst (ea_at dt_L_lands 10 rfl) ic_1 ?_
      exact ev_iret (ea_at dt_L_lands 11 rfl) rfl ⟨by decide, by decide⟩ (fun h => hR _ h)
    · rw [if_neg hk] at e
      cases e
  · refine ev_i2l (ea_at dt_L_lands 6 rfl) ?_
    refine ev_lastoreC (j := 0) (ea_at dt_L_lands 7 rfl) sh_287 (by decide) (by decide) (by decide) ?_
    refine ev_m (fun m3 => ?_)
    refine ev_goto (tgt := 17) (ea_at dt_L_lands 8 rfl) rfl ?_
    refine ev_iconst (ea_at dt_L_lands 12 rfl) ic_0 ?_
    exact ev_iret (ea_at dt_L_lands 13 rfl) rfl ⟨by decide, by decide⟩ (fun h => hR _ h)
def F_L_good : ea_F := (ea_rm 16 2 12, cL_good, RL, some .int, 5, [(0, 10, 13, 24), (0, 10, 17, 13)], 2, 12)
def D_L_good : List (Nat × Instr × Nat) := [(0, .aload_n 3, 1), (1, .iconst 0, 1), (2, .aload_n 0, 1), (3, .iload_n 1, 1), (4, .iload_n 2, 1), (5, .invokevirtual 70, 3), (8, .i2l, 1), (9, .lastore, 1), (10, .goto 11, 3), (13, .astore 4, 2), (15, .iconst 1, 1), (16, .ireturn, 1), (17, .astore 4, 2), (19, .iconst 2, 1), (20, .ireturn, 1), (21, .iconst 0, 1), (22, .ireturn, 1)]
theorem dt_L_good : ∀ q ∈ D_L_good, decode cL_good q.1 = .ok q.2 := by decide +kernel
theorem mv_L_good : ea_MSH yL_good (F_L_good) 4 := ⟨⟨List.mem_append_right _ (List.mem_of_getElem? (i := 0) (by decide +kernel)), List.mem_append_right _ (List.mem_of_getElem? (i := 1203) (by decide +kernel)), ⟨by decide, by decide⟩, by decide +kernel⟩, List.mem_append_right _ (List.mem_of_getElem? (i := 1202) (by decide +kernel))⟩
def f_L_good (p2 : Int32) (p3 : Int32) (m : ea_M) : Option (Int32 × ea_M) :=
  ea_cx (f_X11_good p2 p3 m) (fun r2 m1 =>
  ea_bd (ea_st m1 287 0 r2) fun m3 =>
  some (0, m3)) (fun kx m4 => if kx = 1 then
  some (1, m4)
  else if kx = 2 then
  some (2, m4)
  else none)
set_option maxHeartbeats 300000 in
theorem ok_L_good (G : ea_G) (p2 : Int32) (p3 : Int32) (m : ea_M)  (rZ : Int32) (mZ : ea_M) (hZ : f_L_good p2 p3 m = some (rZ, mZ)) : ea_MetH G yL_good F_L_good [.ref 0, .int p2, .int p3, .ref 287] m (0, rZ, mZ) := by
  refine ea_metH (F := F_L_good) rfl rfl (Nat.le_of_ble_eq_true rfl) (by simp only [List.mem_cons, List.not_mem_nil, or_false]; intro v hv; rcases hv with rfl | rfl | rfl | rfl <;> rfl) ((?_ : ea_E G F_L_good (0, rZ, mZ) 0 [some (.ref 0), some (.int p2), some (.int p3), some (.ref 287), none] [] m 0 0 (f_L_good p2 p3 m) (fun t => t = (rZ, mZ))) (rZ, mZ) hZ rfl)
  have hR : ∀ t : Int32 × ea_M, t = (rZ, mZ) → ((0, rZ, mZ) : ea_O) = (0, t) := fun t h => by rw [h]
  unfold f_L_good
  refine ev_aload_n (ea_at dt_L_good 0 rfl) rfl ?_
  refine ev_iconst (ea_at dt_L_good 1 rfl) ic_0 ?_
  refine ev_aload_n (ea_at dt_L_good 2 rfl) rfl ?_
  refine ev_iload_n (ea_at dt_L_good 3 rfl) rfl ?_
  refine ev_iload_n (ea_at dt_L_good 4 rfl) rfl ?_
  refine ev_cxC (F1 := F_X11_good) (fun zY hY => ea_runV (As := [.int p2, .int p3]) (ea_at dt_L_good 5 rfl) ml_L_70 mv_X11_good (ok_X11_good G p2 p3 m  zY hY) sh_0 rfl rfl rfl (Nat.le_of_ble_eq_true rfl) rfl) rfl (fun kx m4 t hkx e q => ?_) (fun r2 m1 => ?_)
  · by_cases hk : kx = 1
    · rw [if_pos hk] at e
      subst hk
      refine ea_caught2 (pre := []) (name := "java/lang/IndexOutOfBoundsException") rfl (fun z hz => by cases hz) (by decide) (by decide) cl_L_24 cast_1 (ea_at dt_L_good 9 rfl) (by decide) ?_
      refine (?_ : ea_E G F_L_good (0, rZ, mZ) 15 [some (.ref 0), some (.int p2), some (.int p3), some (.ref 287), none] [] m4 2 12 _ (fun t => t = (rZ, mZ))) t e q
      refine ev_iconst (ea_at dt_L_good 10 rfl) ic_1 ?_
      exact ev_iret (ea_at dt_L_good 11 rfl) rfl ⟨by decide, by decide⟩ (fun h => hR _ h)
    · rw [if_neg hk] at e
      by_cases hk : kx = 2
      · rw [if_pos hk] at e
        subst hk
        refine ea_caught2 (pre := [(0, 10, 13, 24)]) (name := "java/lang/IllegalArgumentException") rfl (fun z hz => by simp only [List.mem_cons, List.not_mem_nil, or_false] at hz; rcases hz with rfl <;> first | exact ⟨by decide, _, cl_L_24, by decide⟩) (by decide) (by decide) cl_L_13 cast_2 (ea_at dt_L_good 12 rfl) (by decide) ?_
        refine (?_ : ea_E G F_L_good (0, rZ, mZ) 19 [some (.ref 0), some (.int p2), some (.int p3), some (.ref 287), none] [] m4 2 12 _ (fun t => t = (rZ, mZ))) t e q
        refine ev_iconst (ea_at dt_L_good 13 rfl) ic_2 ?_
        exact ev_iret (ea_at dt_L_good 14 rfl) rfl ⟨by decide, by decide⟩ (fun h => hR _ h)
      · rw [if_neg hk] at e
        cases e
  · refine ev_i2l (ea_at dt_L_good 6 rfl) ?_
    refine ev_lastoreC (j := 0) (ea_at dt_L_good 7 rfl) sh_287 (by decide) (by decide) (by decide) ?_
    refine ev_m (fun m3 => ?_)
    refine ev_goto (tgt := 21) (ea_at dt_L_good 8 rfl) rfl ?_
    refine ev_iconst (ea_at dt_L_good 15 rfl) ic_0 ?_
    exact ev_iret (ea_at dt_L_good 16 rfl) rfl ⟨by decide, by decide⟩ (fun h => hR _ h)
def F_L_straight : ea_F := (ea_rm 14 1 6, cL_straight, RL, some .int, 5, [(0, 10, 13, 24)], 1, 6)
def D_L_straight : List (Nat × Instr × Nat) := [(0, .aload_n 3, 1), (1, .iconst 0, 1), (2, .aload_n 0, 1), (3, .iload_n 1, 1), (4, .iload_n 2, 1), (5, .invokevirtual 73, 3), (8, .i2l, 1), (9, .lastore, 1), (10, .goto 7, 3), (13, .astore 4, 2), (15, .iconst 1, 1), (16, .ireturn, 1), (17, .iconst 0, 1), (18, .ireturn, 1)]
theorem dt_L_straight : ∀ q ∈ D_L_straight, decode cL_straight q.1 = .ok q.2 := by decide +kernel
theorem mv_L_straight : ea_MSH yL_straight (F_L_straight) 4 := ⟨⟨List.mem_append_right _ (List.mem_of_getElem? (i := 0) (by decide +kernel)), List.mem_append_right _ (List.mem_of_getElem? (i := 1210) (by decide +kernel)), ⟨by decide, by decide⟩, by decide +kernel⟩, List.mem_append_right _ (List.mem_of_getElem? (i := 1209) (by decide +kernel))⟩
def f_L_straight (p2 : Int32) (p3 : Int32) (m : ea_M) : Option (Int32 × ea_M) :=
  ea_cx (f_X11_straight p2 p3 m) (fun r2 m1 =>
  ea_bd (ea_st m1 287 0 r2) fun m3 =>
  some (0, m3)) (fun kx m4 => if kx = 1 then
  some (1, m4)
  else none)
set_option maxHeartbeats 300000 in
theorem ok_L_straight (G : ea_G) (p2 : Int32) (p3 : Int32) (m : ea_M)  (rZ : Int32) (mZ : ea_M) (hZ : f_L_straight p2 p3 m = some (rZ, mZ)) : ea_MetH G yL_straight F_L_straight [.ref 0, .int p2, .int p3, .ref 287] m (0, rZ, mZ) := by
  refine ea_metH (F := F_L_straight) rfl rfl (Nat.le_of_ble_eq_true rfl) (by simp only [List.mem_cons, List.not_mem_nil, or_false]; intro v hv; rcases hv with rfl | rfl | rfl | rfl <;> rfl) ((?_ : ea_E G F_L_straight (0, rZ, mZ) 0 [some (.ref 0), some (.int p2), some (.int p3), some (.ref 287), none] [] m 0 0 (f_L_straight p2 p3 m) (fun t => t = (rZ, mZ))) (rZ, mZ) hZ rfl)
  have hR : ∀ t : Int32 × ea_M, t = (rZ, mZ) → ((0, rZ, mZ) : ea_O) = (0, t) := fun t h => by rw [h]
  unfold f_L_straight
  refine ev_aload_n (ea_at dt_L_straight 0 rfl) rfl ?_
  refine ev_iconst (ea_at dt_L_straight 1 rfl) ic_0 ?_
  refine ev_aload_n (ea_at dt_L_straight 2 rfl) rfl ?_
  refine ev_iload_n (ea_at dt_L_straight 3 rfl) rfl ?_
  refine ev_iload_n (ea_at dt_L_straight 4 rfl) rfl ?_
  refine ev_cxC (F1 := F_X11_straight) (fun zY hY => ea_runV (As := [.int p2, .int p3]) (ea_at dt_L_straight 5 rfl) ml_L_73 mv_X11_straight (ok_X11_straight G p2 p3 m  zY hY) sh_0 rfl rfl rfl (Nat.le_of_ble_eq_true rfl) rfl) rfl (fun kx m4 t hkx e q => ?_) (fun r2 m1 => ?_)
  · by_cases hk : kx = 1
    · rw [if_pos hk] at e
      subst hk
      refine ea_caught2 (pre := []) (name := "java/lang/IndexOutOfBoundsException") rfl (fun z hz => by cases hz) (by decide) (by decide) cl_L_24 cast_1 (ea_at dt_L_straight 9 rfl) (by decide) ?_
      refine (?_ : ea_E G F_L_straight (0, rZ, mZ) 15 [some (.ref 0), some (.int p2), some (.int p3), some (.ref 287), none] [] m4 1 6 _ (fun t => t = (rZ, mZ))) t e q
      refine ev_iconst (ea_at dt_L_straight 10 rfl) ic_1 ?_
      exact ev_iret (ea_at dt_L_straight 11 rfl) rfl ⟨by decide, by decide⟩ (fun h => hR _ h)
    · rw [if_neg hk] at e
      cases e
  · refine ev_i2l (ea_at dt_L_straight 6 rfl) ?_
    refine ev_lastoreC (j := 0) (ea_at dt_L_straight 7 rfl) sh_287 (by decide) (by decide) (by decide) ?_
    refine ev_m (fun m3 => ?_)
    refine ev_goto (tgt := 17) (ea_at dt_L_straight 8 rfl) rfl ?_
    refine ev_iconst (ea_at dt_L_straight 12 rfl) ic_0 ?_
    exact ev_iret (ea_at dt_L_straight 13 rfl) rfl ⟨by decide, by decide⟩ (fun h => hR _ h)
def F_L_odds : ea_F := (ea_rm 16 3 18, cL_odds, RL, some .int, 6, [(0, 12, 15, 24), (0, 12, 19, 26)], 3, 18)
def D_L_odds : List (Nat × Instr × Nat) := [(0, .aload 4, 2), (2, .iconst 0, 1), (3, .aload_n 0, 1), (4, .iload_n 1, 1), (5, .iload_n 2, 1), (6, .iload_n 3, 1), (7, .invokevirtual 77, 3), (10, .i2l, 1), (11, .lastore, 1), (12, .goto 11, 3), (15, .astore 5, 2), (17, .iconst 1, 1), (18, .ireturn, 1), (19, .astore 5, 2), (21, .iconst 2, 1), (22, .ireturn, 1), (23, .iconst 0, 1), (24, .ireturn, 1)]
theorem dt_L_odds : ∀ q ∈ D_L_odds, decode cL_odds q.1 = .ok q.2 := by decide +kernel
theorem mv_L_odds : ea_MSH yL_odds (F_L_odds) 5 := ⟨⟨List.mem_append_right _ (List.mem_of_getElem? (i := 0) (by decide +kernel)), List.mem_append_right _ (List.mem_of_getElem? (i := 1219) (by decide +kernel)), ⟨by decide, by decide⟩, by decide +kernel⟩, List.mem_append_right _ (List.mem_of_getElem? (i := 1218) (by decide +kernel))⟩
def f_L_odds (p2 : Int32) (p3 : Int32) (p4 : Int32) (m : ea_M) : Option (Int32 × ea_M) :=
  ea_cx (f_X11_odds p2 p3 p4 m) (fun r2 m1 =>
  ea_bd (ea_st m1 287 0 r2) fun m3 =>
  some (0, m3)) (fun kx m4 => if kx = 1 then
  some (1, m4)
  else if kx = 4 then
  some (2, m4)
  else none)
set_option maxHeartbeats 300000 in
theorem ok_L_odds (G : ea_G) (p2 : Int32) (p3 : Int32) (p4 : Int32) (m : ea_M)  (rZ : Int32) (mZ : ea_M) (hZ : f_L_odds p2 p3 p4 m = some (rZ, mZ)) : ea_MetH G yL_odds F_L_odds [.ref 0, .int p2, .int p3, .int p4, .ref 287] m (0, rZ, mZ) := by
  refine ea_metH (F := F_L_odds) rfl rfl (Nat.le_of_ble_eq_true rfl) (by simp only [List.mem_cons, List.not_mem_nil, or_false]; intro v hv; rcases hv with rfl | rfl | rfl | rfl | rfl <;> rfl) ((?_ : ea_E G F_L_odds (0, rZ, mZ) 0 [some (.ref 0), some (.int p2), some (.int p3), some (.int p4), some (.ref 287), none] [] m 0 0 (f_L_odds p2 p3 p4 m) (fun t => t = (rZ, mZ))) (rZ, mZ) hZ rfl)
  have hR : ∀ t : Int32 × ea_M, t = (rZ, mZ) → ((0, rZ, mZ) : ea_O) = (0, t) := fun t h => by rw [h]
  unfold f_L_odds
  refine ev_aload (ea_at dt_L_odds 0 rfl) rfl ?_
  refine ev_iconst (ea_at dt_L_odds 1 rfl) ic_0 ?_
  refine ev_aload_n (ea_at dt_L_odds 2 rfl) rfl ?_
  refine ev_iload_n (ea_at dt_L_odds 3 rfl) rfl ?_
  refine ev_iload_n (ea_at dt_L_odds 4 rfl) rfl ?_
  refine ev_iload_n (ea_at dt_L_odds 5 rfl) rfl ?_
  refine ev_cxC (F1 := F_X11_odds) (fun zY hY => ea_runV (As := [.int p2, .int p3, .int p4]) (ea_at dt_L_odds 6 rfl) ml_L_77 mv_X11_odds (ok_X11_odds G p2 p3 p4 m  zY hY) sh_0 rfl rfl rfl (Nat.le_of_ble_eq_true rfl) rfl) rfl (fun kx m4 t hkx e q => ?_) (fun r2 m1 => ?_)
  · by_cases hk : kx = 1
    · rw [if_pos hk] at e
      subst hk
      refine ea_caught2 (pre := []) (name := "java/lang/IndexOutOfBoundsException") rfl (fun z hz => by cases hz) (by decide) (by decide) cl_L_24 cast_1 (ea_at dt_L_odds 10 rfl) (by decide) ?_
      refine (?_ : ea_E G F_L_odds (0, rZ, mZ) 17 [some (.ref 0), some (.int p2), some (.int p3), some (.int p4), some (.ref 287), none] [] m4 3 18 _ (fun t => t = (rZ, mZ))) t e q
      refine ev_iconst (ea_at dt_L_odds 11 rfl) ic_1 ?_
      exact ev_iret (ea_at dt_L_odds 12 rfl) rfl ⟨by decide, by decide⟩ (fun h => hR _ h)
    · rw [if_neg hk] at e
      by_cases hk : kx = 4
      · rw [if_pos hk] at e
        subst hk
        refine ea_caught2 (pre := [(0, 12, 15, 24)]) (name := "java/util/NoSuchElementException") rfl (fun z hz => by simp only [List.mem_cons, List.not_mem_nil, or_false] at hz; rcases hz with rfl <;> first | exact ⟨by decide, _, cl_L_24, by decide⟩) (by decide) (by decide) cl_L_26 cast_4 (ea_at dt_L_odds 13 rfl) (by decide) ?_
        refine (?_ : ea_E G F_L_odds (0, rZ, mZ) 21 [some (.ref 0), some (.int p2), some (.int p3), some (.int p4), some (.ref 287), none] [] m4 3 18 _ (fun t => t = (rZ, mZ))) t e q
        refine ev_iconst (ea_at dt_L_odds 14 rfl) ic_2 ?_
        exact ev_iret (ea_at dt_L_odds 15 rfl) rfl ⟨by decide, by decide⟩ (fun h => hR _ h)
      · rw [if_neg hk] at e
        cases e
  · refine ev_i2l (ea_at dt_L_odds 7 rfl) ?_
    refine ev_lastoreC (j := 0) (ea_at dt_L_odds 8 rfl) sh_287 (by decide) (by decide) (by decide) ?_
    refine ev_m (fun m3 => ?_)
    refine ev_goto (tgt := 23) (ea_at dt_L_odds 9 rfl) rfl ?_
    refine ev_iconst (ea_at dt_L_odds 16 rfl) ic_0 ?_
    exact ev_iret (ea_at dt_L_odds 17 rfl) rfl ⟨by decide, by decide⟩ (fun h => hR _ h)
def F_L_best : ea_F := (ea_rm 16 1 6, cL_best, RL, some .int, 5, [(0, 10, 13, 24)], 1, 6)
def D_L_best : List (Nat × Instr × Nat) := [(0, .aload_n 3, 1), (1, .iconst 0, 1), (2, .aload_n 0, 1), (3, .iload_n 1, 1), (4, .iload_n 2, 1), (5, .invokevirtual 80, 3), (8, .i2l, 1), (9, .lastore, 1), (10, .goto 7, 3), (13, .astore 4, 2), (15, .iconst 1, 1), (16, .ireturn, 1), (17, .iconst 0, 1), (18, .ireturn, 1)]
theorem dt_L_best : ∀ q ∈ D_L_best, decode cL_best q.1 = .ok q.2 := by decide +kernel
theorem mv_L_best : ea_MSH yL_best (F_L_best) 4 := ⟨⟨List.mem_append_right _ (List.mem_of_getElem? (i := 0) (by decide +kernel)), List.mem_append_right _ (List.mem_of_getElem? (i := 1243) (by decide +kernel)), ⟨by decide, by decide⟩, by decide +kernel⟩, List.mem_append_right _ (List.mem_of_getElem? (i := 1242) (by decide +kernel))⟩
def f_L_best (p2 : Int32) (p3 : Int32) (m : ea_M) : Option (Int32 × ea_M) :=
  ea_cx (f_X11_best p2 p3 m) (fun r2 m1 =>
  ea_bd (ea_st m1 287 0 r2) fun m3 =>
  some (0, m3)) (fun kx m4 => if kx = 1 then
  some (1, m4)
  else none)
set_option maxHeartbeats 300000 in
theorem ok_L_best (G : ea_G) (p2 : Int32) (p3 : Int32) (m : ea_M)  (rZ : Int32) (mZ : ea_M) (hZ : f_L_best p2 p3 m = some (rZ, mZ)) : ea_MetH G yL_best F_L_best [.ref 0, .int p2, .int p3, .ref 287] m (0, rZ, mZ) := by
  refine ea_metH (F := F_L_best) rfl rfl (Nat.le_of_ble_eq_true rfl) (by simp only [List.mem_cons, List.not_mem_nil, or_false]; intro v hv; rcases hv with rfl | rfl | rfl | rfl <;> rfl) ((?_ : ea_E G F_L_best (0, rZ, mZ) 0 [some (.ref 0), some (.int p2), some (.int p3), some (.ref 287), none] [] m 0 0 (f_L_best p2 p3 m) (fun t => t = (rZ, mZ))) (rZ, mZ) hZ rfl)
  have hR : ∀ t : Int32 × ea_M, t = (rZ, mZ) → ((0, rZ, mZ) : ea_O) = (0, t) := fun t h => by rw [h]
  unfold f_L_best
  refine ev_aload_n (ea_at dt_L_best 0 rfl) rfl ?_
  refine ev_iconst (ea_at dt_L_best 1 rfl) ic_0 ?_
  refine ev_aload_n (ea_at dt_L_best 2 rfl) rfl ?_
  refine ev_iload_n (ea_at dt_L_best 3 rfl) rfl ?_
  refine ev_iload_n (ea_at dt_L_best 4 rfl) rfl ?_
  refine ev_cxC (F1 := F_X11_best) (fun zY hY => ea_runV (As := [.int p2, .int p3]) (ea_at dt_L_best 5 rfl) ml_L_80 mv_X11_best (ok_X11_best G p2 p3 m  zY hY) sh_0 rfl rfl rfl (Nat.le_of_ble_eq_true rfl) rfl) rfl (fun kx m4 t hkx e q => ?_) (fun r2 m1 => ?_)
  · by_cases hk : kx = 1
    · rw [if_pos hk] at e
      subst hk
      refine ea_caught2 (pre := []) (name := "java/lang/IndexOutOfBoundsException") rfl (fun z hz => by cases hz) (by decide) (by decide) cl_L_24 cast_1 (ea_at dt_L_best 9 rfl) (by decide) ?_
      refine (?_ : ea_E G F_L_best (0, rZ, mZ) 15 [some (.ref 0), some (.int p2), some (.int p3), some (.ref 287), none] [] m4 1 6 _ (fun t => t = (rZ, mZ))) t e q
      refine ev_iconst (ea_at dt_L_best 10 rfl) ic_1 ?_
      exact ev_iret (ea_at dt_L_best 11 rfl) rfl ⟨by decide, by decide⟩ (fun h => hR _ h)
    · rw [if_neg hk] at e
      cases e
  · refine ev_i2l (ea_at dt_L_best 6 rfl) ?_
    refine ev_lastoreC (j := 0) (ea_at dt_L_best 7 rfl) sh_287 (by decide) (by decide) (by decide) ?_
    refine ev_m (fun m3 => ?_)
    refine ev_goto (tgt := 17) (ea_at dt_L_best 8 rfl) rfl ?_
    refine ev_iconst (ea_at dt_L_best 12 rfl) ic_0 ?_
    exact ev_iret (ea_at dt_L_best 13 rfl) rfl ⟨by decide, by decide⟩ (fun h => hR _ h)
