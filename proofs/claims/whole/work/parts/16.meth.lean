def F_X0_drift : ea_F := (ea_rm 12 0 0, cX0_drift, RX0, none, 4, [], 0, 0)
def D_X0_drift : List (Nat × Instr × Nat) := [(0, .aload_n 0, 1), (1, .aload_n 1, 1), (2, .getfield 84, 3), (5, .aload_n 1, 1), (6, .getfield 87, 3), (9, .aload_n 1, 1), (10, .getfield 93, 3), (13, .iload_n 2, 1), (14, .invokevirtual 106, 3), (17, .aload_n 1, 1), (18, .dup, 1), (19, .getfield 87, 3), (22, .aload_n 0, 1), (23, .getfield 21, 3), (26, .isub, 1), (27, .putfield 87, 3), (30, .aload_n 1, 1), (31, .dup, 1), (32, .getfield 93, 3), (35, .aload_n 0, 1), (36, .getfield 25, 3), (39, .aload_n 0, 1), (40, .getfield 31, 3), (43, .getfield 39, 3), (46, .aload_n 1, 1), (47, .getfield 84, 3), (50, .iaload, 1), (51, .ifCond .le 7, 3), (54, .iload_n 3, 1), (55, .goto 4, 3), (58, .iconst 0, 1), (59, .iadd, 1), (60, .iadd, 1), (61, .putfield 93, 3), (64, .aload_n 1, 1), (65, .getfield 93, 3), (68, .ifCond .lt 12, 3), (71, .aload_n 1, 1), (72, .getfield 93, 3), (75, .bipush 16, 2), (77, .if_icmp .lt 11, 3), (80, .aload_n 1, 1), (81, .iconst 0, 1), (82, .putfield 96, 3), (85, .goto 47, 3), (88, .aload_n 1, 1), (89, .getfield 87, 3), (92, .ifCond .gt 40, 3), (95, .aload_n 1, 1), (96, .iconst 0, 1), (97, .putfield 96, 3), (100, .aload_n 1, 1), (101, .iload_n 2, 1), (102, .iconst 1, 1), (103, .iadd, 1), (104, .putfield 100, 3), (107, .aload_n 1, 1), (108, .aload_n 0, 1), (109, .getfield 31, 3), (112, .aload_n 1, 1), (113, .getfield 93, 3), (116, .invokevirtual 56, 3), (119, .ifCond .eq 9, 3), (122, .iload_n 2, 1), (123, .iconst 1, 1), (124, .iadd, 1), (125, .goto 4, 3), (128, .iconst 0, 1), (129, .putfield 103, 3), (132, .return_, 1)]
theorem dt_X0_drift : ∀ q ∈ D_X0_drift, decode cX0_drift q.1 = .ok q.2 := by decide +kernel
theorem mv_X0_drift : ea_MV yX0_drift (F_X0_drift) 3 := ⟨⟨List.mem_append_right _ (List.mem_of_getElem? (i := 9) (by decide +kernel)), List.mem_append_right _ (List.mem_of_getElem? (i := 1122) (by decide +kernel)), ⟨by decide, by decide⟩, by decide +kernel⟩, List.mem_append_right _ (List.mem_of_getElem? (i := 1120) (by decide +kernel)), List.mem_append_right _ (List.mem_of_getElem? (i := 1121) (by decide +kernel))⟩
def f_X0_drift_j80 (p1 : Nat) (m20 : ea_M) : Option (Int32 × ea_M) :=
  ea_bd (ea_st m20 p1 3 0) fun m21 =>
  some (0, m21)
def f_X0_drift_j129 (p1 : Nat) (x29 : Int32) (m30 : ea_M) : Option (Int32 × ea_M) :=
  ea_bd (ea_st m30 p1 5 x29) fun m31 =>
  some (0, m31)
def f_X0_drift_j59 (p1 : Nat) (p2 : Int32) (x13 : Int32) (x14 : Int32) (x15 : Int32) (m16 : ea_M) : Option (Int32 × ea_M) :=
  ea_bd (x13 + (x14 + x15)) fun x17 =>
  ea_bd (ea_st m16 p1 2 x17) fun m18 =>
  ea_bd (m18 p1 2) fun x19 =>
  if x19 < 0 then
  f_X0_drift_j80 p1 m18
  else
  ea_bd (m18 p1 2) fun x22 =>
  if x22 < 16 then
  ea_bd (m18 p1 1) fun x23 =>
  if 0 < x23 then
  some (0, m18)
  else
  ea_bd (ea_st m18 p1 3 0) fun m24 =>
  ea_bd (ea_st m24 p1 4 (p2 + 1)) fun m25 =>
  ea_bd (m25 p1 2) fun x26 =>
  ea_cl (f_X2_isYard 2 x26 m25) fun r28 m27 =>
  if r28 = 0 then
  f_X0_drift_j129 p1 0 m27
  else
  f_X0_drift_j129 p1 (p2 + 1) m27
  else
  f_X0_drift_j80 p1 m18
def f_X0_drift (p1 : Nat) (p2 : Int32) (p3 : Int32) (m : ea_M) : Option (Int32 × ea_M) :=
  ea_bd (m p1 0) fun x1 =>
  ea_bd (m p1 1) fun x2 =>
  ea_bd (m p1 2) fun x3 =>
  ea_cl (f_X0_weigh x1 x2 x3 p2 m) fun r5 m4 =>
  ea_bd (m4 p1 1) fun x6 =>
  ea_bd (m4 73 4) fun x7 =>
  ea_bd (ea_st m4 p1 1 (x6 - x7)) fun m8 =>
  ea_bd (m8 p1 2) fun x9 =>
  ea_bd (m8 73 5) fun x10 =>
  ea_bd (m8 p1 0) fun x11 =>
  ea_g x11 6 (ea_bd (m8 5 (Int32.toNatClampNeg x11)) fun x12 =>
  if x12 ≤ 0 then
  f_X0_drift_j59 p1 p2 x9 x10 0 m8
  else
  f_X0_drift_j59 p1 p2 x9 x10 p3 m8)
set_option maxHeartbeats 300000 in
theorem jn_X0_drift_80 (G : ea_G) {res : ea_O}  (p1 : Nat) (m20 : ea_M) (hp1 : ea_isFeather p1) {Φ : (Int32 × ea_M) → Prop} (hR : ∀ t : Int32 × ea_M, Φ t → res = (0, t)) : ea_E G F_X0_drift res 80 [none, some (.ref p1), none, none] [] m20 0 0 (f_X0_drift_j80 p1 m20) Φ := by
  unfold f_X0_drift_j80
  refine ev_aload_n (ea_at dt_X0_drift 41 rfl) rfl ?_
  refine ev_iconst (ea_at dt_X0_drift 42 rfl) ic_0 ?_
  refine ev_putZ (by decide) (ea_at dt_X0_drift 43 rfl) fl_X0_96 fp_5_3 hp1 rfl ?_
  refine ev_m (fun m21 => ?_)
  refine ev_goto (tgt := 132) (ea_at dt_X0_drift 44 rfl) rfl ?_
  exact ev_vret (ea_at dt_X0_drift 69 rfl) rfl ⟨by decide, by decide⟩ (fun h => ⟨0, hR _ h⟩)
set_option maxHeartbeats 300000 in
theorem jn_X0_drift_129 (G : ea_G) {res : ea_O}  (p1 : Nat) (x29 : Int32) (m30 : ea_M) (hp1 : ea_isFeather p1) {Φ : (Int32 × ea_M) → Prop} (hR : ∀ t : Int32 × ea_M, Φ t → res = (0, t)) : ea_E G F_X0_drift res 129 [none, none, none, none] [.int x29, .ref p1] m30 0 0 (f_X0_drift_j129 p1 x29 m30) Φ := by
  unfold f_X0_drift_j129
  refine ev_putI (ea_at dt_X0_drift 68 rfl) fl_X0_103 fp_5_5 hp1 rfl ?_
  refine ev_m (fun m31 => ?_)
  exact ev_vret (ea_at dt_X0_drift 69 rfl) rfl ⟨by decide, by decide⟩ (fun h => ⟨0, hR _ h⟩)
set_option maxHeartbeats 300000 in
theorem jn_X0_drift_59 (G : ea_G) {res : ea_O}  (p1 : Nat) (p2 : Int32) (x13 : Int32) (x14 : Int32) (x15 : Int32) (m16 : ea_M) (hp1 : ea_isFeather p1) {Φ : (Int32 × ea_M) → Prop} (hR : ∀ t : Int32 × ea_M, Φ t → res = (0, t)) : ea_E G F_X0_drift res 59 [some (.ref 73), some (.ref p1), some (.int p2), none] [.int x15, .int x14, .int x13, .ref p1] m16 0 0 (f_X0_drift_j59 p1 p2 x13 x14 x15 m16) Φ := by
  unfold f_X0_drift_j59
  refine ev_iadd (ea_at dt_X0_drift 31 rfl) ?_
  refine ev_iadd (ea_at dt_X0_drift 32 rfl) ?_
  refine ev_i (fun x17 => ?_)
  refine ev_putI (ea_at dt_X0_drift 33 rfl) fl_X0_93 fp_5_2 hp1 rfl ?_
  refine ev_m (fun m18 => ?_)
  refine ev_aload_n (ea_at dt_X0_drift 34 rfl) rfl ?_
  refine ev_getI (ea_at dt_X0_drift 35 rfl) fl_X0_93 hp1 rfl ?_
  refine ev_i (fun x19 => ?_)
  refine ev_if_lt (tgt := 80) (ea_at dt_X0_drift 36 rfl) rfl (fun _ => ?_) (fun _ => ?_)
  · exact ev_drop (l' := [none, some (.ref p1), none, none]) ⟨Or.inl rfl, Or.inr rfl, Or.inl rfl, Or.inl rfl, trivial⟩ (jn_X0_drift_80 G p1 m18 hp1 hR)
  · refine ev_aload_n (ea_at dt_X0_drift 37 rfl) rfl ?_
    refine ev_getI (ea_at dt_X0_drift 38 rfl) fl_X0_93 hp1 rfl ?_
    refine ev_i (fun x22 => ?_)
    refine ev_bipush (ea_at dt_X0_drift 39 rfl) bp_16 ?_
    refine ev_icmp_lt (tgt := 88) (ea_at dt_X0_drift 40 rfl) rfl (fun _ => ?_) (fun _ => ?_)
    · refine ev_aload_n (ea_at dt_X0_drift 45 rfl) rfl ?_
      refine ev_getI (ea_at dt_X0_drift 46 rfl) fl_X0_87 hp1 rfl ?_
      refine ev_i (fun x23 => ?_)
      refine ev_if_gt (tgt := 132) (ea_at dt_X0_drift 47 rfl) rfl (fun _ => ?_) (fun _ => ?_)
      · exact ev_vret (ea_at dt_X0_drift 69 rfl) rfl ⟨by decide, by decide⟩ (fun h => ⟨0, hR _ h⟩)
      · refine ev_aload_n (ea_at dt_X0_drift 48 rfl) rfl ?_
        refine ev_iconst (ea_at dt_X0_drift 49 rfl) ic_0 ?_
        refine ev_putZ (by decide) (ea_at dt_X0_drift 50 rfl) fl_X0_96 fp_5_3 hp1 rfl ?_
        refine ev_m (fun m24 => ?_)
        refine ev_aload_n (ea_at dt_X0_drift 51 rfl) rfl ?_
        refine ev_iload_n (ea_at dt_X0_drift 52 rfl) rfl ?_
        refine ev_iconst (ea_at dt_X0_drift 53 rfl) ic_1 ?_
        refine ev_iadd (ea_at dt_X0_drift 54 rfl) ?_
        refine ev_putI (ea_at dt_X0_drift 55 rfl) fl_X0_100 fp_5_4 hp1 rfl ?_
        refine ev_m (fun m25 => ?_)
        refine ev_aload_n (ea_at dt_X0_drift 56 rfl) rfl ?_
        refine ev_aload_n (ea_at dt_X0_drift 57 rfl) rfl ?_
        refine ev_getR (ea_at dt_X0_drift 58 rfl) fl_X0_31 sh_73 rfl ?_
        refine ev_aload_n (ea_at dt_X0_drift 59 rfl) rfl ?_
        refine ev_getI (ea_at dt_X0_drift 60 rfl) fl_X0_93 hp1 rfl ?_
        refine ev_i (fun x26 => ?_)
        refine ev_clI (F1 := F_X2_isYard) (fun rY mY hY => ea_runV (As := [.int x26]) (ea_at dt_X0_drift 61 rfl) ml_X0_56 mv_X2_isYard (ok_X2_isYard G 2 x26 m25 is_Court_2 rY mY hY) sh_2 rfl rfl rfl (Nat.le_of_ble_eq_true rfl) rfl) rfl (fun r28 m27 => ?_)
        refine ev_if_eq (tgt := 128) (ea_at dt_X0_drift 62 rfl) rfl (fun _ => ?_) (fun _ => ?_)
        · refine ev_iconst (ea_at dt_X0_drift 67 rfl) ic_0 ?_
          exact ev_drop (l' := [none, none, none, none]) ⟨Or.inl rfl, Or.inl rfl, Or.inl rfl, Or.inl rfl, trivial⟩ (jn_X0_drift_129 G p1 0 m27 hp1 hR)
        · refine ev_iload_n (ea_at dt_X0_drift 63 rfl) rfl ?_
          refine ev_iconst (ea_at dt_X0_drift 64 rfl) ic_1 ?_
          refine ev_iadd (ea_at dt_X0_drift 65 rfl) ?_
          refine ev_goto (tgt := 129) (ea_at dt_X0_drift 66 rfl) rfl ?_
          exact ev_drop (l' := [none, none, none, none]) ⟨Or.inl rfl, Or.inl rfl, Or.inl rfl, Or.inl rfl, trivial⟩ (jn_X0_drift_129 G p1 (p2 + 1) m27 hp1 hR)
    · exact ev_drop (l' := [none, some (.ref p1), none, none]) ⟨Or.inl rfl, Or.inr rfl, Or.inl rfl, Or.inl rfl, trivial⟩ (jn_X0_drift_80 G p1 m18 hp1 hR)
set_option maxHeartbeats 300000 in
theorem ok_X0_drift (G : ea_G) (p1 : Nat) (p2 : Int32) (p3 : Int32) (m : ea_M) (hp1 : ea_isFeather p1) (rZ : Int32) (mZ : ea_M) (hZ : f_X0_drift p1 p2 p3 m = some (rZ, mZ)) : ea_Met G yX0_drift F_X0_drift [.ref 73, .ref p1, .int p2, .int p3] m (0, rZ, mZ) := by
  refine ea_met (F := F_X0_drift) (by decide +kernel) rfl rfl (Nat.le_of_ble_eq_true rfl) (by simp only [List.mem_cons, List.not_mem_nil, or_false]; intro v hv; rcases hv with rfl | rfl | rfl | rfl <;> rfl) ((?_ : ea_E G F_X0_drift (0, rZ, mZ) 0 [some (.ref 73), some (.ref p1), some (.int p2), some (.int p3)] [] m 0 0 (f_X0_drift p1 p2 p3 m) (fun t => t = (rZ, mZ))) (rZ, mZ) hZ rfl)
  have hR : ∀ t : Int32 × ea_M, t = (rZ, mZ) → ((0, rZ, mZ) : ea_O) = (0, t) := fun t h => by rw [h]
  unfold f_X0_drift
  refine ev_aload_n (ea_at dt_X0_drift 0 rfl) rfl ?_
  refine ev_aload_n (ea_at dt_X0_drift 1 rfl) rfl ?_
  refine ev_getI (ea_at dt_X0_drift 2 rfl) fl_X0_84 hp1 rfl ?_
  refine ev_i (fun x1 => ?_)
  refine ev_aload_n (ea_at dt_X0_drift 3 rfl) rfl ?_
  refine ev_getI (ea_at dt_X0_drift 4 rfl) fl_X0_87 hp1 rfl ?_
  refine ev_i (fun x2 => ?_)
  refine ev_aload_n (ea_at dt_X0_drift 5 rfl) rfl ?_
  refine ev_getI (ea_at dt_X0_drift 6 rfl) fl_X0_93 hp1 rfl ?_
  refine ev_i (fun x3 => ?_)
  refine ev_iload_n (ea_at dt_X0_drift 7 rfl) rfl ?_
  refine ev_clU (F1 := F_X0_weigh) (fun rY mY hY => ea_runV (As := [.int x1, .int x2, .int x3, .int p2]) (ea_at dt_X0_drift 8 rfl) ml_X0_106 mv_X0_weigh (ok_X0_weigh G x1 x2 x3 p2 m  rY mY hY) sh_73 rfl rfl rfl (Nat.le_of_ble_eq_true rfl) rfl) rfl (fun r5 m4 => ?_)
  refine ev_aload_n (ea_at dt_X0_drift 9 rfl) rfl ?_
  refine ev_dup (ea_at dt_X0_drift 10 rfl) rfl ?_
  refine ev_getI (ea_at dt_X0_drift 11 rfl) fl_X0_87 hp1 rfl ?_
  refine ev_i (fun x6 => ?_)
  refine ev_aload_n (ea_at dt_X0_drift 12 rfl) rfl ?_
  refine ev_getI (ea_at dt_X0_drift 13 rfl) fl_X0_21 sh_73 rfl ?_
  refine ev_i (fun x7 => ?_)
  refine ev_isub (ea_at dt_X0_drift 14 rfl) ?_
  refine ev_putI (ea_at dt_X0_drift 15 rfl) fl_X0_87 fp_5_1 hp1 rfl ?_
  refine ev_m (fun m8 => ?_)
  refine ev_aload_n (ea_at dt_X0_drift 16 rfl) rfl ?_
  refine ev_dup (ea_at dt_X0_drift 17 rfl) rfl ?_
  refine ev_getI (ea_at dt_X0_drift 18 rfl) fl_X0_93 hp1 rfl ?_
  refine ev_i (fun x9 => ?_)
  refine ev_aload_n (ea_at dt_X0_drift 19 rfl) rfl ?_
  refine ev_getI (ea_at dt_X0_drift 20 rfl) fl_X0_25 sh_73 rfl ?_
  refine ev_i (fun x10 => ?_)
  refine ev_aload_n (ea_at dt_X0_drift 21 rfl) rfl ?_
  refine ev_getR (ea_at dt_X0_drift 22 rfl) fl_X0_31 sh_73 rfl ?_
  refine ev_getR (ea_at dt_X0_drift 23 rfl) fl_X0_39 sh_2 rfl ?_
  refine ev_aload_n (ea_at dt_X0_drift 24 rfl) rfl ?_
  refine ev_getI (ea_at dt_X0_drift 25 rfl) fl_X0_84 hp1 rfl ?_
  refine ev_i (fun x11 => ?_)
  refine ev_iaload (ea_at dt_X0_drift 26 rfl) sh_5 (by decide) ?_
  refine ev_i (fun x12 => ?_)
  refine ev_if_le (tgt := 58) (ea_at dt_X0_drift 27 rfl) rfl (fun _ => ?_) (fun _ => ?_)
  · refine ev_iconst (ea_at dt_X0_drift 30 rfl) ic_0 ?_
    exact ev_drop (l' := [some (.ref 73), some (.ref p1), some (.int p2), none]) ⟨Or.inr rfl, Or.inr rfl, Or.inr rfl, Or.inl rfl, trivial⟩ (jn_X0_drift_59 G p1 p2 x9 x10 0 m8 hp1 hR)
  · refine ev_iload_n (ea_at dt_X0_drift 28 rfl) rfl ?_
    refine ev_goto (tgt := 59) (ea_at dt_X0_drift 29 rfl) rfl ?_
    exact ev_drop (l' := [some (.ref 73), some (.ref p1), some (.int p2), none]) ⟨Or.inr rfl, Or.inr rfl, Or.inr rfl, Or.inl rfl, trivial⟩ (jn_X0_drift_59 G p1 p2 x9 x10 p3 m8 hp1 hR)
def F_X0_duel : ea_F := (ea_rm 13 0 0, cX0_duel, RX0, none, 5, [], 0, 0)
def D_X0_duel : List (Nat × Instr × Nat) := [(0, .aload_n 0, 1), (1, .iload_n 3, 1), (2, .putfield 28, 3), (5, .aload_n 0, 1), (6, .aload_n 0, 1), (7, .getfield 12, 3), (10, .iload_n 1, 1), (11, .invokevirtual 109, 3), (14, .aload_n 0, 1), (15, .aload_n 0, 1), (16, .getfield 18, 3), (19, .iload_n 2, 1), (20, .invokevirtual 109, 3), (23, .iconst 0, 1), (24, .istore 4, 2), (26, .iload 4, 2), (28, .bipush 8, 2), (30, .if_icmp .ge 57, 3), (33, .aload_n 0, 1), (34, .getfield 12, 3), (37, .getfield 96, 3), (40, .ifCond .eq 17, 3), (43, .aload_n 0, 1), (44, .aload_n 0, 1), (45, .getfield 12, 3), (48, .iload 4, 2), (50, .aload_n 0, 1), (51, .invokevirtual 113, 3), (54, .invokevirtual 117, 3), (57, .aload_n 0, 1), (58, .getfield 18, 3), (61, .getfield 96, 3), (64, .ifCond .eq 17, 3), (67, .aload_n 0, 1), (68, .aload_n 0, 1), (69, .getfield 18, 3), (72, .iload 4, 2), (74, .aload_n 0, 1), (75, .invokevirtual 113, 3), (78, .invokevirtual 117, 3), (81, .iinc 4 1, 3), (84, .goto (-58), 3), (87, .return_, 1)]
theorem dt_X0_duel : ∀ q ∈ D_X0_duel, decode cX0_duel q.1 = .ok q.2 := by decide +kernel
theorem mv_X0_duel : ea_MV yX0_duel (F_X0_duel) 3 := ⟨⟨List.mem_append_right _ (List.mem_of_getElem? (i := 9) (by decide +kernel)), List.mem_append_right _ (List.mem_of_getElem? (i := 1109) (by decide +kernel)), ⟨by decide, by decide⟩, by decide +kernel⟩, List.mem_append_right _ (List.mem_of_getElem? (i := 1107) (by decide +kernel)), List.mem_append_right _ (List.mem_of_getElem? (i := 1108) (by decide +kernel))⟩
def f_X0_duel_j81 (x10 : Int32) (m11 : ea_M) : Option ((Int32 × ea_M) ⊕ (ea_M)) :=
  some (.inl (x10 + 1, m11))
def f_X0_duel_j57 (x7 : Int32) (m8 : ea_M) : Option ((Int32 × ea_M) ⊕ (ea_M)) :=
  ea_bd (m8 75 3) fun x9 =>
  if x9 = 0 then
  f_X0_duel_j81 x7 m8
  else
  ea_cl (f_X0_gust m8) fun r13 m12 =>
  ea_cl (f_X0_drift 75 x7 r13 m12) fun r15 m14 =>
  f_X0_duel_j81 x7 m14
def f_X0_duel_s26  (s26 : Int32 × ea_M) : Option ((Int32 × ea_M) ⊕ (ea_M)) :=
  if 8 ≤ s26.1 then
  some (.inr s26.2)
  else
  ea_bd (s26.2 74 3) fun x6 =>
  if x6 = 0 then
  f_X0_duel_j57 s26.1 s26.2
  else
  ea_cl (f_X0_gust s26.2) fun r17 m16 =>
  ea_cl (f_X0_drift 74 s26.1 r17 m16) fun r19 m18 =>
  f_X0_duel_j57 s26.1 m18
def f_X0_duel (p1 : Int32) (p2 : Int32) (p3 : Int32) (m : ea_M) : Option (Int32 × ea_M) :=
  ea_bd (ea_st m 73 6 p3) fun m1 =>
  ea_cl (f_X0_release 74 p1 m1) fun r3 m2 =>
  ea_cl (f_X0_release 75 p2 m2) fun r5 m4 =>
  (ea_loop f_X0_duel_s26 ea_fuel (0, m4)).bind (fun x26s =>
  some (0, x26s))
set_option maxHeartbeats 300000 in
theorem jn_X0_duel_81 (G : ea_G) {res : ea_O}  (x10 : Int32) (m11 : ea_M)  {Φ : ((Int32 × ea_M) ⊕ (ea_M)) → Prop} (hC : ∀ s26 : Int32 × ea_M, Φ (.inl s26) → ea_Ev G F_X0_duel res 26 [some (.ref 73), none, none, none, some (.int s26.1)] [] s26.2 0 0) (hX : ∀ x26s : ea_M, Φ (.inr x26s) → ea_Ev G F_X0_duel res 87 [none, none, none, none, none] [] x26s 0 0) : ea_E G F_X0_duel res 81 [some (.ref 73), none, none, none, some (.int x10)] [] m11 0 0 (f_X0_duel_j81 x10 m11) Φ := by
  unfold f_X0_duel_j81
  refine ev_iinc (ls' := [some (.ref 73), none, none, none, some (.int (x10 + 1))]) (ea_at dt_X0_duel 40 rfl) rfl (congrArg (fun z => _ + z) ic_1) (ea_lt rfl) rfl ?_
  refine ev_goto (tgt := 26) (ea_at dt_X0_duel 41 rfl) rfl ?_
  exact ev_leaf (fun h => ea_drop (l' := [some (.ref 73), none, none, none, some (.int (x10 + 1))]) ⟨Or.inr rfl, Or.inl rfl, Or.inl rfl, Or.inl rfl, Or.inr rfl, trivial⟩ (hC (x10 + 1, m11) h))
set_option maxHeartbeats 300000 in
theorem jn_X0_duel_57 (G : ea_G) {res : ea_O}  (x7 : Int32) (m8 : ea_M)  {Φ : ((Int32 × ea_M) ⊕ (ea_M)) → Prop} (hC : ∀ s26 : Int32 × ea_M, Φ (.inl s26) → ea_Ev G F_X0_duel res 26 [some (.ref 73), none, none, none, some (.int s26.1)] [] s26.2 0 0) (hX : ∀ x26s : ea_M, Φ (.inr x26s) → ea_Ev G F_X0_duel res 87 [none, none, none, none, none] [] x26s 0 0) : ea_E G F_X0_duel res 57 [some (.ref 73), none, none, none, some (.int x7)] [] m8 0 0 (f_X0_duel_j57 x7 m8) Φ := by
  unfold f_X0_duel_j57
  refine ev_aload_n (ea_at dt_X0_duel 29 rfl) rfl ?_
  refine ev_getR (ea_at dt_X0_duel 30 rfl) fl_X0_18 sh_73 rfl ?_
  refine ev_getI (ea_at dt_X0_duel 31 rfl) fl_X0_96 sh_75 rfl ?_
  refine ev_i (fun x9 => ?_)
  refine ev_if_eq (tgt := 81) (ea_at dt_X0_duel 32 rfl) rfl (fun _ => ?_) (fun _ => ?_)
  · exact ev_drop (l' := [some (.ref 73), none, none, none, some (.int x7)]) ⟨Or.inr rfl, Or.inl rfl, Or.inl rfl, Or.inl rfl, Or.inr rfl, trivial⟩ (jn_X0_duel_81 G x7 m8  hC hX)
  · refine ev_aload_n (ea_at dt_X0_duel 33 rfl) rfl ?_
    refine ev_aload_n (ea_at dt_X0_duel 34 rfl) rfl ?_
    refine ev_getR (ea_at dt_X0_duel 35 rfl) fl_X0_18 sh_73 rfl ?_
    refine ev_iload (ea_at dt_X0_duel 36 rfl) rfl ?_
    refine ev_aload_n (ea_at dt_X0_duel 37 rfl) rfl ?_
    refine ev_clI (F1 := F_X0_gust) (fun rY mY hY => ea_runV (As := []) (ea_at dt_X0_duel 38 rfl) ml_X0_113 mv_X0_gust (ok_X0_gust G m8  rY mY hY) sh_73 rfl rfl rfl (Nat.le_of_ble_eq_true rfl) rfl) rfl (fun r13 m12 => ?_)
    refine ev_clU (F1 := F_X0_drift) (fun rY mY hY => ea_runV (As := [.ref 75, .int x7, .int r13]) (ea_at dt_X0_duel 39 rfl) ml_X0_117 mv_X0_drift (ok_X0_drift G 75 x7 r13 m12 is_Feather_75 rY mY hY) sh_73 rfl rfl rfl (Nat.le_of_ble_eq_true rfl) rfl) rfl (fun r15 m14 => ?_)
    exact ev_drop (l' := [some (.ref 73), none, none, none, some (.int x7)]) ⟨Or.inr rfl, Or.inl rfl, Or.inl rfl, Or.inl rfl, Or.inr rfl, trivial⟩ (jn_X0_duel_81 G x7 m14  hC hX)
set_option maxHeartbeats 300000 in
theorem lp_X0_duel_26 (G : ea_G) {res : ea_O}    {Ψ : ea_M → Prop} (hX : ∀ x26s : ea_M, Ψ x26s → ea_Ev G F_X0_duel res 87 [none, none, none, none, none] [] x26s 0 0) : ∀ (f : Nat) (s26 : Int32 × ea_M), ea_E G F_X0_duel res 26 [some (.ref 73), none, none, none, some (.int s26.1)] [] s26.2 0 0 (ea_loop f_X0_duel_s26 f s26) Ψ := by
  refine ev_loop (G := G) (F := F_X0_duel) (res := res) (pc := 26) (st := []) (k := 0) (n := 0) (step := f_X0_duel_s26) (Ψ := Ψ) (fun (s26 : Int32 × ea_M) => [some (.ref 73), none, none, none, some (.int s26.1)]) (fun (s26 : Int32 × ea_M) => s26.2) (fun s26 => ?_)
  have hC : ∀ s26 : Int32 × ea_M, (Sum.elim (fun s26 : Int32 × ea_M => ea_Ev G F_X0_duel res 26 [some (.ref 73), none, none, none, some (.int s26.1)] [] s26.2 0 0) Ψ) (.inl s26) → ea_Ev G F_X0_duel res 26 [some (.ref 73), none, none, none, some (.int s26.1)] [] s26.2 0 0 := fun _ h => h
  have hX : ∀ x26s : ea_M, (Sum.elim (fun s26 : Int32 × ea_M => ea_Ev G F_X0_duel res 26 [some (.ref 73), none, none, none, some (.int s26.1)] [] s26.2 0 0) Ψ) (.inr x26s) → ea_Ev G F_X0_duel res 87 [none, none, none, none, none] [] x26s 0 0 := hX
  unfold f_X0_duel_s26
  refine ev_iload (ea_at dt_X0_duel 15 rfl) rfl ?_
  refine ev_bipush (ea_at dt_X0_duel 16 rfl) bp_8 ?_
  refine ev_icmp_ge (tgt := 87) (ea_at dt_X0_duel 17 rfl) rfl (fun _ => ?_) (fun _ => ?_)
  · exact ev_leaf (fun h => ea_drop (l' := [none, none, none, none, none]) ⟨Or.inl rfl, Or.inl rfl, Or.inl rfl, Or.inl rfl, Or.inl rfl, trivial⟩ (hX s26.2 h))
  · refine ev_aload_n (ea_at dt_X0_duel 18 rfl) rfl ?_
    refine ev_getR (ea_at dt_X0_duel 19 rfl) fl_X0_12 sh_73 rfl ?_
    refine ev_getI (ea_at dt_X0_duel 20 rfl) fl_X0_96 sh_74 rfl ?_
    refine ev_i (fun x6 => ?_)
    refine ev_if_eq (tgt := 57) (ea_at dt_X0_duel 21 rfl) rfl (fun _ => ?_) (fun _ => ?_)
    · exact ev_drop (l' := [some (.ref 73), none, none, none, some (.int s26.1)]) ⟨Or.inr rfl, Or.inl rfl, Or.inl rfl, Or.inl rfl, Or.inr rfl, trivial⟩ (jn_X0_duel_57 G s26.1 s26.2  hC hX)
    · refine ev_aload_n (ea_at dt_X0_duel 22 rfl) rfl ?_
      refine ev_aload_n (ea_at dt_X0_duel 23 rfl) rfl ?_
      refine ev_getR (ea_at dt_X0_duel 24 rfl) fl_X0_12 sh_73 rfl ?_
      refine ev_iload (ea_at dt_X0_duel 25 rfl) rfl ?_
      refine ev_aload_n (ea_at dt_X0_duel 26 rfl) rfl ?_
      refine ev_clI (F1 := F_X0_gust) (fun rY mY hY => ea_runV (As := []) (ea_at dt_X0_duel 27 rfl) ml_X0_113 mv_X0_gust (ok_X0_gust G s26.2  rY mY hY) sh_73 rfl rfl rfl (Nat.le_of_ble_eq_true rfl) rfl) rfl (fun r17 m16 => ?_)
      refine ev_clU (F1 := F_X0_drift) (fun rY mY hY => ea_runV (As := [.ref 74, .int s26.1, .int r17]) (ea_at dt_X0_duel 28 rfl) ml_X0_117 mv_X0_drift (ok_X0_drift G 74 s26.1 r17 m16 is_Feather_74 rY mY hY) sh_73 rfl rfl rfl (Nat.le_of_ble_eq_true rfl) rfl) rfl (fun r19 m18 => ?_)
      exact ev_drop (l' := [some (.ref 73), none, none, none, some (.int s26.1)]) ⟨Or.inr rfl, Or.inl rfl, Or.inl rfl, Or.inl rfl, Or.inr rfl, trivial⟩ (jn_X0_duel_57 G s26.1 m18  hC hX)
set_option maxHeartbeats 300000 in
theorem ok_X0_duel (G : ea_G) (p1 : Int32) (p2 : Int32) (p3 : Int32) (m : ea_M)  (rZ : Int32) (mZ : ea_M) (hZ : f_X0_duel p1 p2 p3 m = some (rZ, mZ)) : ea_Met G yX0_duel F_X0_duel [.ref 73, .int p1, .int p2, .int p3] m (0, rZ, mZ) := by
  refine ea_met (F := F_X0_duel) (by decide +kernel) rfl rfl (Nat.le_of_ble_eq_true rfl) (by simp only [List.mem_cons, List.not_mem_nil, or_false]; intro v hv; rcases hv with rfl | rfl | rfl | rfl <;> rfl) ((?_ : ea_E G F_X0_duel (0, rZ, mZ) 0 [some (.ref 73), some (.int p1), some (.int p2), some (.int p3), none] [] m 0 0 (f_X0_duel p1 p2 p3 m) (fun t => t = (rZ, mZ))) (rZ, mZ) hZ rfl)
  have hR : ∀ t : Int32 × ea_M, t = (rZ, mZ) → ((0, rZ, mZ) : ea_O) = (0, t) := fun t h => by rw [h]
  unfold f_X0_duel
  refine ev_aload_n (ea_at dt_X0_duel 0 rfl) rfl ?_
  refine ev_iload_n (ea_at dt_X0_duel 1 rfl) rfl ?_
  refine ev_putI (ea_at dt_X0_duel 2 rfl) fl_X0_28 fp_0_6 sh_73 rfl ?_
  refine ev_m (fun m1 => ?_)
  refine ev_aload_n (ea_at dt_X0_duel 3 rfl) rfl ?_
  refine ev_aload_n (ea_at dt_X0_duel 4 rfl) rfl ?_
  refine ev_getR (ea_at dt_X0_duel 5 rfl) fl_X0_12 sh_73 rfl ?_
  refine ev_iload_n (ea_at dt_X0_duel 6 rfl) rfl ?_
  refine ev_clU (F1 := F_X0_release) (fun rY mY hY => ea_runV (As := [.ref 74, .int p1]) (ea_at dt_X0_duel 7 rfl) ml_X0_109 mv_X0_release (ok_X0_release G 74 p1 m1 is_Feather_74 rY mY hY) sh_73 rfl rfl rfl (Nat.le_of_ble_eq_true rfl) rfl) rfl (fun r3 m2 => ?_)
  refine ev_aload_n (ea_at dt_X0_duel 8 rfl) rfl ?_
  refine ev_aload_n (ea_at dt_X0_duel 9 rfl) rfl ?_
  refine ev_getR (ea_at dt_X0_duel 10 rfl) fl_X0_18 sh_73 rfl ?_
  refine ev_iload_n (ea_at dt_X0_duel 11 rfl) rfl ?_
  refine ev_clU (F1 := F_X0_release) (fun rY mY hY => ea_runV (As := [.ref 75, .int p2]) (ea_at dt_X0_duel 12 rfl) ml_X0_109 mv_X0_release (ok_X0_release G 75 p2 m2 is_Feather_75 rY mY hY) sh_73 rfl rfl rfl (Nat.le_of_ble_eq_true rfl) rfl) rfl (fun r5 m4 => ?_)
  refine ev_iconst (ea_at dt_X0_duel 13 rfl) ic_0 ?_
  refine ev_istore (ls' := [some (.ref 73), some (.int p1), some (.int p2), some (.int p3), some (.int 0)]) (ea_at dt_X0_duel 14 rfl) (ea_lt rfl) rfl ?_
  refine ev_drop (l' := [some (.ref 73), none, none, none, some (.int 0)]) ⟨Or.inr rfl, Or.inl rfl, Or.inl rfl, Or.inl rfl, Or.inr rfl, trivial⟩ ?_
  refine ev_bind (lp_X0_duel_26 G   (fun x26s h => ?_) ea_fuel (0, m4))
  obtain ⟨t1, e1, q1⟩ := h
  refine (?_ : ea_E G F_X0_duel (0, rZ, mZ) 87 [none, none, none, none, none] [] x26s 0 0 _ (fun t => t = (rZ, mZ))) t1 e1 q1
  exact ev_vret (ea_at dt_X0_duel 42 rfl) rfl ⟨by decide, by decide⟩ (fun h => ⟨0, hR _ h⟩)
def F_X0_firstGood : ea_F := (ea_rm 8 0 0, cX0_firstGood, RX0, some .int, 1, [], 0, 0)
def D_X0_firstGood : List (Nat × Instr × Nat) := [(0, .aload_n 0, 1), (1, .getfield 12, 3), (4, .getfield 103, 3), (7, .ifCond .eq 13, 3), (10, .aload_n 0, 1), (11, .getfield 18, 3), (14, .getfield 103, 3), (17, .ifCond .ne 21, 3), (20, .aload_n 0, 1), (21, .getfield 12, 3), (24, .getfield 103, 3), (27, .aload_n 0, 1), (28, .getfield 18, 3), (31, .getfield 103, 3), (34, .invokestatic 75, 3), (37, .ireturn, 1), (38, .aload_n 0, 1), (39, .getfield 12, 3), (42, .getfield 103, 3), (45, .aload_n 0, 1), (46, .getfield 18, 3), (49, .getfield 103, 3), (52, .invokestatic 69, 3), (55, .ireturn, 1)]
theorem dt_X0_firstGood : ∀ q ∈ D_X0_firstGood, decode cX0_firstGood q.1 = .ok q.2 := by decide +kernel
theorem mv_X0_firstGood : ea_MV yX0_firstGood (F_X0_firstGood) 0 := ⟨⟨List.mem_append_right _ (List.mem_of_getElem? (i := 9) (by decide +kernel)), List.mem_append_right _ (List.mem_of_getElem? (i := 1131) (by decide +kernel)), ⟨by decide, by decide⟩, by decide +kernel⟩, List.mem_append_right _ (List.mem_of_getElem? (i := 1129) (by decide +kernel)), List.mem_append_right _ (List.mem_of_getElem? (i := 1130) (by decide +kernel))⟩
def f_X0_firstGood_j20 (m2 : ea_M) : Option (Int32 × ea_M) :=
  ea_bd (m2 74 5) fun x3 =>
  ea_bd (m2 75 5) fun x4 =>
  ea_bd (ea_max x3 x4) fun x5 =>
  some (x5, m2)
def f_X0_firstGood (m : ea_M) : Option (Int32 × ea_M) :=
  ea_bd (m 74 5) fun x1 =>
  if x1 = 0 then
  f_X0_firstGood_j20 m
  else
  ea_bd (m 75 5) fun x6 =>
  if x6 = 0 then
  f_X0_firstGood_j20 m
  else
  ea_bd (m 74 5) fun x7 =>
  ea_bd (m 75 5) fun x8 =>
  ea_bd (ea_min x7 x8) fun x9 =>
  some (x9, m)
set_option maxHeartbeats 300000 in
theorem jn_X0_firstGood_20 (G : ea_G) {res : ea_O}  (m2 : ea_M)  {Φ : (Int32 × ea_M) → Prop} (hR : ∀ t : Int32 × ea_M, Φ t → res = (0, t)) : ea_E G F_X0_firstGood res 20 [some (.ref 73)] [] m2 0 0 (f_X0_firstGood_j20 m2) Φ := by
  unfold f_X0_firstGood_j20
  refine ev_aload_n (ea_at dt_X0_firstGood 8 rfl) rfl ?_
  refine ev_getR (ea_at dt_X0_firstGood 9 rfl) fl_X0_12 sh_73 rfl ?_
  refine ev_getI (ea_at dt_X0_firstGood 10 rfl) fl_X0_103 sh_74 rfl ?_
  refine ev_i (fun x3 => ?_)
  refine ev_aload_n (ea_at dt_X0_firstGood 11 rfl) rfl ?_
  refine ev_getR (ea_at dt_X0_firstGood 12 rfl) fl_X0_18 sh_73 rfl ?_
  refine ev_getI (ea_at dt_X0_firstGood 13 rfl) fl_X0_103 sh_75 rfl ?_
  refine ev_i (fun x4 => ?_)
  refine ev_mmax (ea_at dt_X0_firstGood 14 rfl) ml_X0_75 ea_maW_max ⟨by decide, Nat.le_of_ble_eq_true rfl, by decide, by decide⟩ ?_
  refine ev_i (fun x5 => ?_)
  exact ev_iret (ea_at dt_X0_firstGood 15 rfl) rfl ⟨by decide, by decide⟩ (fun h => hR _ h)
set_option maxHeartbeats 300000 in
theorem ok_X0_firstGood (G : ea_G) (m : ea_M)  (rZ : Int32) (mZ : ea_M) (hZ : f_X0_firstGood m = some (rZ, mZ)) : ea_Met G yX0_firstGood F_X0_firstGood [.ref 73] m (0, rZ, mZ) := by
  refine ea_met (F := F_X0_firstGood) (by decide +kernel) rfl rfl (Nat.le_of_ble_eq_true rfl) (by simp only [List.mem_cons, List.not_mem_nil, or_false]; intro v hv; rcases hv with rfl <;> rfl) ((?_ : ea_E G F_X0_firstGood (0, rZ, mZ) 0 [some (.ref 73)] [] m 0 0 (f_X0_firstGood m) (fun t => t = (rZ, mZ))) (rZ, mZ) hZ rfl)
  have hR : ∀ t : Int32 × ea_M, t = (rZ, mZ) → ((0, rZ, mZ) : ea_O) = (0, t) := fun t h => by rw [h]
  unfold f_X0_firstGood
  refine ev_aload_n (ea_at dt_X0_firstGood 0 rfl) rfl ?_
  refine ev_getR (ea_at dt_X0_firstGood 1 rfl) fl_X0_12 sh_73 rfl ?_
  refine ev_getI (ea_at dt_X0_firstGood 2 rfl) fl_X0_103 sh_74 rfl ?_
  refine ev_i (fun x1 => ?_)
  refine ev_if_eq (tgt := 20) (ea_at dt_X0_firstGood 3 rfl) rfl (fun _ => ?_) (fun _ => ?_)
  · exact ev_drop (l' := [some (.ref 73)]) ⟨Or.inr rfl, trivial⟩ (jn_X0_firstGood_20 G m  hR)
  · refine ev_aload_n (ea_at dt_X0_firstGood 4 rfl) rfl ?_
    refine ev_getR (ea_at dt_X0_firstGood 5 rfl) fl_X0_18 sh_73 rfl ?_
    refine ev_getI (ea_at dt_X0_firstGood 6 rfl) fl_X0_103 sh_75 rfl ?_
    refine ev_i (fun x6 => ?_)
    refine ev_if_ne (tgt := 38) (ea_at dt_X0_firstGood 7 rfl) rfl (fun _ => ?_) (fun _ => ?_)
    · exact ev_drop (l' := [some (.ref 73)]) ⟨Or.inr rfl, trivial⟩ (jn_X0_firstGood_20 G m  hR)
    · refine ev_aload_n (ea_at dt_X0_firstGood 16 rfl) rfl ?_
      refine ev_getR (ea_at dt_X0_firstGood 17 rfl) fl_X0_12 sh_73 rfl ?_
      refine ev_getI (ea_at dt_X0_firstGood 18 rfl) fl_X0_103 sh_74 rfl ?_
      refine ev_i (fun x7 => ?_)
      refine ev_aload_n (ea_at dt_X0_firstGood 19 rfl) rfl ?_
      refine ev_getR (ea_at dt_X0_firstGood 20 rfl) fl_X0_18 sh_73 rfl ?_
      refine ev_getI (ea_at dt_X0_firstGood 21 rfl) fl_X0_103 sh_75 rfl ?_
      refine ev_i (fun x8 => ?_)
      refine ev_mmin (ea_at dt_X0_firstGood 22 rfl) ml_X0_69 ea_maW_min ⟨by decide, Nat.le_of_ble_eq_true rfl, by decide, by decide⟩ ?_
      refine ev_i (fun x9 => ?_)
      exact ev_iret (ea_at dt_X0_firstGood 23 rfl) rfl ⟨by decide, by decide⟩ (fun h => hR _ h)
def F_X0_ending : ea_F := (ea_rm 9 0 0, cX0_ending, RX0, some .int, 1, [], 0, 0)
def D_X0_ending : List (Nat × Instr × Nat) := [(0, .aload_n 0, 1), (1, .getfield 12, 3), (4, .getfield 103, 3), (7, .aload_n 0, 1), (8, .getfield 18, 3), (11, .getfield 103, 3), (14, .if_icmp .ne 19, 3), (17, .aload_n 0, 1), (18, .getfield 12, 3), (21, .getfield 103, 3), (24, .ifCond .ne 7, 3), (27, .iconst 4, 1), (28, .goto 4, 3), (31, .iconst 3, 1), (32, .ireturn, 1), (33, .aload_n 0, 1), (34, .invokevirtual 122, 3), (37, .aload_n 0, 1), (38, .getfield 12, 3), (41, .getfield 103, 3), (44, .if_icmp .ne 7, 3), (47, .iconst 1, 1), (48, .goto 4, 3), (51, .iconst 2, 1), (52, .ireturn, 1)]
theorem dt_X0_ending : ∀ q ∈ D_X0_ending, decode cX0_ending q.1 = .ok q.2 := by decide +kernel
theorem mv_X0_ending : ea_MV yX0_ending (F_X0_ending) 0 := ⟨⟨List.mem_append_right _ (List.mem_of_getElem? (i := 9) (by decide +kernel)), List.mem_append_right _ (List.mem_of_getElem? (i := 1127) (by decide +kernel)), ⟨by decide, by decide⟩, by decide +kernel⟩, List.mem_append_right _ (List.mem_of_getElem? (i := 1125) (by decide +kernel)), List.mem_append_right _ (List.mem_of_getElem? (i := 1126) (by decide +kernel))⟩
def f_X0_ending (m : ea_M) : Option (Int32 × ea_M) :=
  ea_bd (m 74 5) fun x1 =>
  ea_bd (m 75 5) fun x2 =>
  if x1 = x2 then
  ea_bd (m 74 5) fun x3 =>
  if x3 = 0 then
  some (4, m)
  else
  some (3, m)
  else
  ea_cl (f_X0_firstGood m) fun r5 m4 =>
  ea_bd (m4 74 5) fun x6 =>
  if r5 = x6 then
  some (1, m4)
  else
  some (2, m4)
set_option maxHeartbeats 300000 in
theorem ok_X0_ending (G : ea_G) (m : ea_M)  (rZ : Int32) (mZ : ea_M) (hZ : f_X0_ending m = some (rZ, mZ)) : ea_Met G yX0_ending F_X0_ending [.ref 73] m (0, rZ, mZ) := by
  refine ea_met (F := F_X0_ending) (by decide +kernel) rfl rfl (Nat.le_of_ble_eq_true rfl) (by simp only [List.mem_cons, List.not_mem_nil, or_false]; intro v hv; rcases hv with rfl <;> rfl) ((?_ : ea_E G F_X0_ending (0, rZ, mZ) 0 [some (.ref 73)] [] m 0 0 (f_X0_ending m) (fun t => t = (rZ, mZ))) (rZ, mZ) hZ rfl)
  have hR : ∀ t : Int32 × ea_M, t = (rZ, mZ) → ((0, rZ, mZ) : ea_O) = (0, t) := fun t h => by rw [h]
  unfold f_X0_ending
  refine ev_aload_n (ea_at dt_X0_ending 0 rfl) rfl ?_
  refine ev_getR (ea_at dt_X0_ending 1 rfl) fl_X0_12 sh_73 rfl ?_
  refine ev_getI (ea_at dt_X0_ending 2 rfl) fl_X0_103 sh_74 rfl ?_
  refine ev_i (fun x1 => ?_)
  refine ev_aload_n (ea_at dt_X0_ending 3 rfl) rfl ?_
  refine ev_getR (ea_at dt_X0_ending 4 rfl) fl_X0_18 sh_73 rfl ?_
  refine ev_getI (ea_at dt_X0_ending 5 rfl) fl_X0_103 sh_75 rfl ?_
  refine ev_i (fun x2 => ?_)
  refine ev_icmp_ne (tgt := 33) (ea_at dt_X0_ending 6 rfl) rfl (fun _ => ?_) (fun _ => ?_)
  · refine ev_aload_n (ea_at dt_X0_ending 7 rfl) rfl ?_
    refine ev_getR (ea_at dt_X0_ending 8 rfl) fl_X0_12 sh_73 rfl ?_
    refine ev_getI (ea_at dt_X0_ending 9 rfl) fl_X0_103 sh_74 rfl ?_
    refine ev_i (fun x3 => ?_)
    refine ev_if_ne (tgt := 31) (ea_at dt_X0_ending 10 rfl) rfl (fun _ => ?_) (fun _ => ?_)
    · refine ev_iconst (ea_at dt_X0_ending 11 rfl) ic_4 ?_
      refine ev_goto (tgt := 32) (ea_at dt_X0_ending 12 rfl) rfl ?_
      exact ev_iret (ea_at dt_X0_ending 14 rfl) rfl ⟨by decide, by decide⟩ (fun h => hR _ h)
    · refine ev_iconst (ea_at dt_X0_ending 13 rfl) ic_3 ?_
      exact ev_iret (ea_at dt_X0_ending 14 rfl) rfl ⟨by decide, by decide⟩ (fun h => hR _ h)
  · refine ev_aload_n (ea_at dt_X0_ending 15 rfl) rfl ?_
    refine ev_clI (F1 := F_X0_firstGood) (fun rY mY hY => ea_runV (As := []) (ea_at dt_X0_ending 16 rfl) ml_X0_122 mv_X0_firstGood (ok_X0_firstGood G m  rY mY hY) sh_73 rfl rfl rfl (Nat.le_of_ble_eq_true rfl) rfl) rfl (fun r5 m4 => ?_)
    refine ev_aload_n (ea_at dt_X0_ending 17 rfl) rfl ?_
    refine ev_getR (ea_at dt_X0_ending 18 rfl) fl_X0_12 sh_73 rfl ?_
    refine ev_getI (ea_at dt_X0_ending 19 rfl) fl_X0_103 sh_74 rfl ?_
    refine ev_i (fun x6 => ?_)
    refine ev_icmp_ne (tgt := 51) (ea_at dt_X0_ending 20 rfl) rfl (fun _ => ?_) (fun _ => ?_)
    · refine ev_iconst (ea_at dt_X0_ending 21 rfl) ic_1 ?_
      refine ev_goto (tgt := 52) (ea_at dt_X0_ending 22 rfl) rfl ?_
      exact ev_iret (ea_at dt_X0_ending 24 rfl) rfl ⟨by decide, by decide⟩ (fun h => hR _ h)
    · refine ev_iconst (ea_at dt_X0_ending 23 rfl) ic_2 ?_
      exact ev_iret (ea_at dt_X0_ending 24 rfl) rfl ⟨by decide, by decide⟩ (fun h => hR _ h)
def F_X6_open : ea_F := (ea_rm 8 0 0, cX6_open, RX6, none, 3, [], 0, 0)
def D_X6_open : List (Nat × Instr × Nat) := [(0, .aload_n 0, 1), (1, .aload_n 0, 1), (2, .getfield 15, 3), (5, .iconst 1, 1), (6, .iadd, 1), (7, .bipush 60, 2), (9, .irem, 1), (10, .putfield 15, 3), (13, .aload_n 0, 1), (14, .bipush 60, 2), (16, .aload_n 0, 1), (17, .getfield 9, 3), (20, .iconst 1, 1), (21, .iadd, 1), (22, .invokestatic 28, 3), (25, .putfield 9, 3), (28, .aload_n 0, 1), (29, .getfield 18, 3), (32, .aload_n 0, 1), (33, .getfield 15, 3), (36, .bipush 6, 2), (38, .imul, 1), (39, .iconst 0, 1), (40, .iadd, 1), (41, .iload_n 1, 1), (42, .iastore, 1), (43, .aload_n 0, 1), (44, .getfield 18, 3), (47, .aload_n 0, 1), (48, .getfield 15, 3), (51, .bipush 6, 2), (53, .imul, 1), (54, .iconst 1, 1), (55, .iadd, 1), (56, .iload_n 2, 1), (57, .iastore, 1), (58, .return_, 1)]
theorem dt_X6_open : ∀ q ∈ D_X6_open, decode cX6_open q.1 = .ok q.2 := by decide +kernel
theorem mv_X6_open : ea_MV yX6_open (F_X6_open) 2 := ⟨⟨List.mem_append_right _ (List.mem_of_getElem? (i := 4) (by decide +kernel)), List.mem_append_right _ (List.mem_of_getElem? (i := 1135) (by decide +kernel)), ⟨by decide, by decide⟩, by decide +kernel⟩, List.mem_append_right _ (List.mem_of_getElem? (i := 1133) (by decide +kernel)), List.mem_append_right _ (List.mem_of_getElem? (i := 1134) (by decide +kernel))⟩
def f_X6_open (a : Nat) (p1 : Int32) (p2 : Int32) (m : ea_M) : Option (Int32 × ea_M) :=
  ea_bd (m a 1) fun x1 =>
  ea_bd ((x1 + 1) - (x1 + 1) / 60 * 60) fun x2 =>
  ea_bd (ea_st m a 1 x2) fun m3 =>
  ea_bd (m3 a 0) fun x4 =>
  ea_bd (ea_min 60 (x4 + 1)) fun x5 =>
  ea_bd (ea_st m3 a 0 x5) fun m6 =>
  ea_bd (m6 a 1) fun x7 =>
  ea_bd ((x7 * 6) + 0) fun x8 =>
  ea_g x8 360 (ea_bd (ea_st m6 (a + 1) (Int32.toNatClampNeg x8) p1) fun m9 =>
  ea_bd (m9 a 1) fun x10 =>
  ea_bd ((x10 * 6) + 1) fun x11 =>
  ea_g x11 360 (ea_bd (ea_st m9 (a + 1) (Int32.toNatClampNeg x11) p2) fun m12 =>
  some (0, m12)))
set_option maxHeartbeats 300000 in
theorem ok_X6_open (G : ea_G) (a : Nat) (p1 : Int32) (p2 : Int32) (m : ea_M) (ha : ea_isJournal a) (rZ : Int32) (mZ : ea_M) (hZ : f_X6_open a p1 p2 m = some (rZ, mZ)) : ea_Met G yX6_open F_X6_open [.ref a, .int p1, .int p2] m (0, rZ, mZ) := by
  refine ea_met (F := F_X6_open) (by decide +kernel) rfl rfl (Nat.le_of_ble_eq_true rfl) (by simp only [List.mem_cons, List.not_mem_nil, or_false]; intro v hv; rcases hv with rfl | rfl | rfl <;> rfl) ((?_ : ea_E G F_X6_open (0, rZ, mZ) 0 [some (.ref a), some (.int p1), some (.int p2)] [] m 0 0 (f_X6_open a p1 p2 m) (fun t => t = (rZ, mZ))) (rZ, mZ) hZ rfl)
  have hR : ∀ t : Int32 × ea_M, t = (rZ, mZ) → ((0, rZ, mZ) : ea_O) = (0, t) := fun t h => by rw [h]
  unfold f_X6_open
  refine ev_aload_n (ea_at dt_X6_open 0 rfl) rfl ?_
  refine ev_aload_n (ea_at dt_X6_open 1 rfl) rfl ?_
  refine ev_getI (ea_at dt_X6_open 2 rfl) fl_X6_15 ha.1 rfl ?_
  refine ev_i (fun x1 => ?_)
  refine ev_iconst (ea_at dt_X6_open 3 rfl) ic_1 ?_
  refine ev_iadd (ea_at dt_X6_open 4 rfl) ?_
  refine ev_bipush (ea_at dt_X6_open 5 rfl) bp_60 ?_
  refine ev_irem (ea_at dt_X6_open 6 rfl) (by decide) ?_
  refine ev_i (fun x2 => ?_)
  refine ev_putI (ea_at dt_X6_open 7 rfl) fl_X6_15 fp_6_1 ha.1 rfl ?_
  refine ev_m (fun m3 => ?_)
  refine ev_aload_n (ea_at dt_X6_open 8 rfl) rfl ?_
  refine ev_bipush (ea_at dt_X6_open 9 rfl) bp_60 ?_
  refine ev_aload_n (ea_at dt_X6_open 10 rfl) rfl ?_
  refine ev_getI (ea_at dt_X6_open 11 rfl) fl_X6_9 ha.1 rfl ?_
  refine ev_i (fun x4 => ?_)
  refine ev_iconst (ea_at dt_X6_open 12 rfl) ic_1 ?_
  refine ev_iadd (ea_at dt_X6_open 13 rfl) ?_
  refine ev_mmin (ea_at dt_X6_open 14 rfl) ml_X6_28 ea_maW_min ⟨by decide, Nat.le_of_ble_eq_true rfl, by decide, by decide⟩ ?_
  refine ev_i (fun x5 => ?_)
  refine ev_putI (ea_at dt_X6_open 15 rfl) fl_X6_9 fp_6_0 ha.1 rfl ?_
  refine ev_m (fun m6 => ?_)
  refine ev_aload_n (ea_at dt_X6_open 16 rfl) rfl ?_
  refine ev_getR (ea_at dt_X6_open 17 rfl) fl_X6_18 ha.1 rfl ?_
  refine ev_aload_n (ea_at dt_X6_open 18 rfl) rfl ?_
  refine ev_getI (ea_at dt_X6_open 19 rfl) fl_X6_15 ha.1 rfl ?_
  refine ev_i (fun x7 => ?_)
  refine ev_bipush (ea_at dt_X6_open 20 rfl) bp_6 ?_
  refine ev_imul (ea_at dt_X6_open 21 rfl) ?_
  refine ev_iconst (ea_at dt_X6_open 22 rfl) ic_0 ?_
  refine ev_iadd (ea_at dt_X6_open 23 rfl) ?_
  refine ev_i (fun x8 => ?_)
  refine ev_iload_n (ea_at dt_X6_open 24 rfl) rfl ?_
  refine ev_iastore (ea_at dt_X6_open 25 rfl) ha.2 (by decide) ?_
  refine ev_m (fun m9 => ?_)
  refine ev_aload_n (ea_at dt_X6_open 26 rfl) rfl ?_
  refine ev_getR (ea_at dt_X6_open 27 rfl) fl_X6_18 ha.1 rfl ?_
  refine ev_aload_n (ea_at dt_X6_open 28 rfl) rfl ?_
  refine ev_getI (ea_at dt_X6_open 29 rfl) fl_X6_15 ha.1 rfl ?_
  refine ev_i (fun x10 => ?_)
  refine ev_bipush (ea_at dt_X6_open 30 rfl) bp_6 ?_
  refine ev_imul (ea_at dt_X6_open 31 rfl) ?_
  refine ev_iconst (ea_at dt_X6_open 32 rfl) ic_1 ?_
  refine ev_iadd (ea_at dt_X6_open 33 rfl) ?_
  refine ev_i (fun x11 => ?_)
  refine ev_iload_n (ea_at dt_X6_open 34 rfl) rfl ?_
  refine ev_iastore (ea_at dt_X6_open 35 rfl) ha.2 (by decide) ?_
  refine ev_m (fun m12 => ?_)
  exact ev_vret (ea_at dt_X6_open 36 rfl) rfl ⟨by decide, by decide⟩ (fun h => ⟨0, hR _ h⟩)
def F_X6_write : ea_F := (ea_rm 8 0 0, cX6_write, RX6, none, 5, [], 0, 0)
def D_X6_write : List (Nat × Instr × Nat) := [(0, .aload_n 0, 1), (1, .getfield 18, 3), (4, .aload_n 0, 1), (5, .getfield 15, 3), (8, .bipush 6, 2), (10, .imul, 1), (11, .iconst 2, 1), (12, .iadd, 1), (13, .iload_n 1, 1), (14, .iastore, 1), (15, .aload_n 0, 1), (16, .getfield 18, 3), (19, .aload_n 0, 1), (20, .getfield 15, 3), (23, .bipush 6, 2), (25, .imul, 1), (26, .iconst 3, 1), (27, .iadd, 1), (28, .iload_n 2, 1), (29, .iastore, 1), (30, .aload_n 0, 1), (31, .getfield 18, 3), (34, .aload_n 0, 1), (35, .getfield 15, 3), (38, .bipush 6, 2), (40, .imul, 1), (41, .iconst 4, 1), (42, .iadd, 1), (43, .iload_n 3, 1), (44, .iastore, 1), (45, .aload_n 0, 1), (46, .getfield 18, 3), (49, .aload_n 0, 1), (50, .getfield 15, 3), (53, .bipush 6, 2), (55, .imul, 1), (56, .iconst 5, 1), (57, .iadd, 1), (58, .iload 4, 2), (60, .iastore, 1), (61, .return_, 1)]
theorem dt_X6_write : ∀ q ∈ D_X6_write, decode cX6_write q.1 = .ok q.2 := by decide +kernel
theorem mv_X6_write : ea_MV yX6_write (F_X6_write) 4 := ⟨⟨List.mem_append_right _ (List.mem_of_getElem? (i := 4) (by decide +kernel)), List.mem_append_right _ (List.mem_of_getElem? (i := 1141) (by decide +kernel)), ⟨by decide, by decide⟩, by decide +kernel⟩, List.mem_append_right _ (List.mem_of_getElem? (i := 1139) (by decide +kernel)), List.mem_append_right _ (List.mem_of_getElem? (i := 1140) (by decide +kernel))⟩
def f_X6_write (a : Nat) (p1 : Int32) (p2 : Int32) (p3 : Int32) (p4 : Int32) (m : ea_M) : Option (Int32 × ea_M) :=
  ea_bd (m a 1) fun x1 =>
  ea_bd ((x1 * 6) + 2) fun x2 =>
  ea_g x2 360 (ea_bd (ea_st m (a + 1) (Int32.toNatClampNeg x2) p1) fun m3 =>
  ea_bd (m3 a 1) fun x4 =>
  ea_bd ((x4 * 6) + 3) fun x5 =>
  ea_g x5 360 (ea_bd (ea_st m3 (a + 1) (Int32.toNatClampNeg x5) p2) fun m6 =>
  ea_bd (m6 a 1) fun x7 =>
  ea_bd ((x7 * 6) + 4) fun x8 =>
  ea_g x8 360 (ea_bd (ea_st m6 (a + 1) (Int32.toNatClampNeg x8) p3) fun m9 =>
  ea_bd (m9 a 1) fun x10 =>
  ea_bd ((x10 * 6) + 5) fun x11 =>
  ea_g x11 360 (ea_bd (ea_st m9 (a + 1) (Int32.toNatClampNeg x11) p4) fun m12 =>
  some (0, m12)))))
set_option maxHeartbeats 300000 in
theorem ok_X6_write (G : ea_G) (a : Nat) (p1 : Int32) (p2 : Int32) (p3 : Int32) (p4 : Int32) (m : ea_M) (ha : ea_isJournal a) (rZ : Int32) (mZ : ea_M) (hZ : f_X6_write a p1 p2 p3 p4 m = some (rZ, mZ)) : ea_Met G yX6_write F_X6_write [.ref a, .int p1, .int p2, .int p3, .int p4] m (0, rZ, mZ) := by
  refine ea_met (F := F_X6_write) (by decide +kernel) rfl rfl (Nat.le_of_ble_eq_true rfl) (by simp only [List.mem_cons, List.not_mem_nil, or_false]; intro v hv; rcases hv with rfl | rfl | rfl | rfl | rfl <;> rfl) ((?_ : ea_E G F_X6_write (0, rZ, mZ) 0 [some (.ref a), some (.int p1), some (.int p2), some (.int p3), some (.int p4)] [] m 0 0 (f_X6_write a p1 p2 p3 p4 m) (fun t => t = (rZ, mZ))) (rZ, mZ) hZ rfl)
  have hR : ∀ t : Int32 × ea_M, t = (rZ, mZ) → ((0, rZ, mZ) : ea_O) = (0, t) := fun t h => by rw [h]
  unfold f_X6_write
  refine ev_aload_n (ea_at dt_X6_write 0 rfl) rfl ?_
  refine ev_getR (ea_at dt_X6_write 1 rfl) fl_X6_18 ha.1 rfl ?_
  refine ev_aload_n (ea_at dt_X6_write 2 rfl) rfl ?_
  refine ev_getI (ea_at dt_X6_write 3 rfl) fl_X6_15 ha.1 rfl ?_
  refine ev_i (fun x1 => ?_)
  refine ev_bipush (ea_at dt_X6_write 4 rfl) bp_6 ?_
  refine ev_imul (ea_at dt_X6_write 5 rfl) ?_
  refine ev_iconst (ea_at dt_X6_write 6 rfl) ic_2 ?_
  refine ev_iadd (ea_at dt_X6_write 7 rfl) ?_
  refine ev_i (fun x2 => ?_)
  refine ev_iload_n (ea_at dt_X6_write 8 rfl) rfl ?_
  refine ev_iastore (ea_at dt_X6_write 9 rfl) ha.2 (by decide) ?_
  refine ev_m (fun m3 => ?_)
  refine ev_aload_n (ea_at dt_X6_write 10 rfl) rfl ?_
  refine ev_getR (ea_at dt_X6_write 11 rfl) fl_X6_18 ha.1 rfl ?_
  refine ev_aload_n (ea_at dt_X6_write 12 rfl) rfl ?_
  refine ev_getI (ea_at dt_X6_write 13 rfl) fl_X6_15 ha.1 rfl ?_
  refine ev_i (fun x4 => ?_)
  refine ev_bipush (ea_at dt_X6_write 14 rfl) bp_6 ?_
  refine ev_imul (ea_at dt_X6_write 15 rfl) ?_
  refine ev_iconst (ea_at dt_X6_write 16 rfl) ic_3 ?_
  refine ev_iadd (ea_at dt_X6_write 17 rfl) ?_
  refine ev_i (fun x5 => ?_)
  refine ev_iload_n (ea_at dt_X6_write 18 rfl) rfl ?_
  refine ev_iastore (ea_at dt_X6_write 19 rfl) ha.2 (by decide) ?_
  refine ev_m (fun m6 => ?_)
  refine ev_aload_n (ea_at dt_X6_write 20 rfl) rfl ?_
  refine ev_getR (ea_at dt_X6_write 21 rfl) fl_X6_18 ha.1 rfl ?_
  refine ev_aload_n (ea_at dt_X6_write 22 rfl) rfl ?_
  refine ev_getI (ea_at dt_X6_write 23 rfl) fl_X6_15 ha.1 rfl ?_
  refine ev_i (fun x7 => ?_)
  refine ev_bipush (ea_at dt_X6_write 24 rfl) bp_6 ?_
  refine ev_imul (ea_at dt_X6_write 25 rfl) ?_
  refine ev_iconst (ea_at dt_X6_write 26 rfl) ic_4 ?_
  refine ev_iadd (ea_at dt_X6_write 27 rfl) ?_
  refine ev_i (fun x8 => ?_)
  refine ev_iload_n (ea_at dt_X6_write 28 rfl) rfl ?_
  refine ev_iastore (ea_at dt_X6_write 29 rfl) ha.2 (by decide) ?_
  refine ev_m (fun m9 => ?_)
  refine ev_aload_n (ea_at dt_X6_write 30 rfl) rfl ?_
  refine ev_getR (ea_at dt_X6_write 31 rfl) fl_X6_18 ha.1 rfl ?_
  refine ev_aload_n (ea_at dt_X6_write 32 rfl) rfl ?_
  refine ev_getI (ea_at dt_X6_write 33 rfl) fl_X6_15 ha.1 rfl ?_
  refine ev_i (fun x10 => ?_)
  refine ev_bipush (ea_at dt_X6_write 34 rfl) bp_6 ?_
  refine ev_imul (ea_at dt_X6_write 35 rfl) ?_
  refine ev_iconst (ea_at dt_X6_write 36 rfl) ic_5 ?_
  refine ev_iadd (ea_at dt_X6_write 37 rfl) ?_
  refine ev_i (fun x11 => ?_)
  refine ev_iload (ea_at dt_X6_write 38 rfl) rfl ?_
  refine ev_iastore (ea_at dt_X6_write 39 rfl) ha.2 (by decide) ?_
  refine ev_m (fun m12 => ?_)
  exact ev_vret (ea_at dt_X6_write 40 rfl) rfl ⟨by decide, by decide⟩ (fun h => ⟨0, hR _ h⟩)
def F_X11_call : ea_F := (ea_rm 14 4 24, cX11_call, RX11, some .int, 5, [], 4, 24)
def D_X11_call : List (Nat × Instr × Nat) := [(0, .aload_n 0, 1), (1, .iload_n 1, 1), (2, .invokevirtual 190, 3), (5, .aload_n 0, 1), (6, .iload_n 2, 1), (7, .invokevirtual 157, 3), (10, .aload_n 0, 1), (11, .iload_n 3, 1), (12, .invokevirtual 157, 3), (15, .aload_n 0, 1), (16, .getfield 23, 3), (19, .getfield 180, 3), (22, .astore 4, 2), (24, .aload 4, 2), (26, .getfield 202, 3), (29, .iload_n 1, 1), (30, .iaload, 1), (31, .ifCond .ne 31, 3), (34, .aload 4, 2), (36, .iload_n 1, 1), (37, .iconst 0, 1), (38, .invokevirtual 205, 3), (41, .iload_n 2, 1), (42, .ishr, 1), (43, .iconst 1, 1), (44, .iand, 1), (45, .ifCond .eq 17, 3), (48, .aload 4, 2), (50, .iload_n 1, 1), (51, .iconst 1, 1), (52, .invokevirtual 205, 3), (55, .iload_n 3, 1), (56, .ishr, 1), (57, .iconst 1, 1), (58, .iand, 1), (59, .ifCond .ne 14, 3), (62, .new 276, 3), (65, .dup, 1), (66, .ldc_w 278, 3), (69, .invokespecial 280, 3), (72, .athrow, 1), (73, .aload_n 0, 1), (74, .invokevirtual 281, 3), (77, .aload 4, 2), (79, .aload 4, 2), (81, .getfield 193, 3), (84, .iload_n 1, 1), (85, .iaload, 1), (86, .iload_n 2, 1), (87, .iconst (-1), 1), (88, .invokevirtual 284, 3), (91, .pop, 1), (92, .aload 4, 2), (94, .aload 4, 2), (96, .getfield 196, 3), (99, .iload_n 1, 1), (100, .iaload, 1), (101, .iload_n 3, 1), (102, .iconst (-1), 1), (103, .invokevirtual 284, 3), (106, .pop, 1), (107, .aload_n 0, 1), (108, .getfield 83, 3), (111, .iload_n 2, 1), (112, .iload_n 3, 1), (113, .aload_n 0, 1), (114, .getfield 23, 3), (117, .getfield 288, 3), (120, .invokevirtual 291, 3), (123, .aload_n 0, 1), (124, .getfield 23, 3), (127, .aload_n 0, 1), (128, .getfield 83, 3), (131, .getfield 294, 3), (134, .putfield 288, 3), (137, .aload 4, 2), (139, .getfield 202, 3), (142, .iload_n 1, 1), (143, .aload_n 0, 1), (144, .getfield 83, 3), (147, .invokevirtual 295, 3), (150, .iastore, 1), (151, .aload_n 0, 1), (152, .getfield 23, 3), (155, .getfield 267, 3), (158, .aload_n 0, 1), (159, .getfield 23, 3), (162, .getfield 242, 3), (165, .iload_n 1, 1), (166, .invokevirtual 298, 3), (169, .aload_n 0, 1), (170, .getfield 23, 3), (173, .getfield 267, 3), (176, .iload_n 2, 1), (177, .iload_n 3, 1), (178, .aload_n 0, 1), (179, .getfield 83, 3), (182, .invokevirtual 295, 3), (185, .aload_n 0, 1), (186, .getfield 83, 3), (189, .invokevirtual 301, 3), (192, .invokevirtual 304, 3), (195, .aload 4, 2), (197, .getfield 202, 3), (200, .iload_n 1, 1), (201, .iaload, 1), (202, .ireturn, 1)]
theorem dt_X11_call : ∀ q ∈ D_X11_call, decode cX11_call q.1 = .ok q.2 := by decide +kernel
theorem mv_X11_call : ea_MV yX11_call (F_X11_call) 3 := ⟨⟨List.mem_append_right _ (List.mem_of_getElem? (i := 1) (by decide +kernel)), List.mem_append_right _ (List.mem_of_getElem? (i := 1078) (by decide +kernel)), ⟨by decide, by decide⟩, by decide +kernel⟩, List.mem_append_right _ (List.mem_of_getElem? (i := 1076) (by decide +kernel)), List.mem_append_right _ (List.mem_of_getElem? (i := 1077) (by decide +kernel))⟩
def f_X11_call (p1 : Int32) (p2 : Int32) (p3 : Int32) (m : ea_M) : Option (ea_O) :=
  ea_cx (f_X11_needCase p1 m) (fun r2 m1 =>
  ea_cx (f_X11_needBird p2 m1) (fun r4 m3 =>
  ea_cx (f_X11_needBird p3 m3) (fun r6 m5 =>
  ea_g p1 12 (ea_bd (m5 13 (Int32.toNatClampNeg p1)) fun x7 =>
  if x7 = 0 then
  ea_cl (f_X1_choices 8 p1 0 m5) fun r9 m8 =>
  ea_bd ((r9 >>> (p2 &&& 31)) &&& 1) fun x10 =>
  if x10 = 0 then
  some (3, 0, m8)
  else
  ea_cl (f_X1_choices 8 p1 1 m8) fun r12 m11 =>
  ea_bd ((r12 >>> (p3 &&& 31)) &&& 1) fun x13 =>
  if x13 = 0 then
  some (3, 0, m11)
  else
  ea_cl (f_X11_remember m11) fun r15 m14 =>
  ea_g p1 12 (ea_bd (m14 10 (Int32.toNatClampNeg p1)) fun x16 =>
  ea_cl (f_X1_add 8 x16 p2 (-1) m14) fun r18 m17 =>
  ea_g p1 12 (ea_bd (m17 11 (Int32.toNatClampNeg p1)) fun x19 =>
  ea_cl (f_X1_add 8 x19 p3 (-1) m17) fun r21 m20 =>
  ea_bd (m20 2 6) fun x22 =>
  ea_cl (f_X0_duel p2 p3 x22 m20) fun r24 m23 =>
  ea_bd (m23 73 6) fun x25 =>
  ea_bd (ea_st m23 2 6 x25) fun m26 =>
  ea_cl (f_X0_ending m26) fun r28 m27 =>
  ea_g p1 12 (ea_bd (ea_st m27 13 (Int32.toNatClampNeg p1) r28) fun m29 =>
  ea_bd (m29 2 5) fun x30 =>
  ea_cl (f_X6_open 14 x30 p1 m29) fun r32 m31 =>
  ea_cl (f_X0_ending m31) fun r34 m33 =>
  ea_cl (f_X0_firstGood m33) fun r36 m35 =>
  ea_cl (f_X6_write 14 p2 p3 r34 r36 m35) fun r38 m37 =>
  ea_g p1 12 (ea_bd (m37 13 (Int32.toNatClampNeg p1)) fun x39 =>
  some (0, x39, m37)))))
  else
  some (3, 0, m5))) (fun kx mx => some (kx, 0, mx))) (fun kx mx => some (kx, 0, mx))) (fun kx mx => some (kx, 0, mx))
set_option maxHeartbeats 300000 in
theorem ok_X11_call (G : ea_G) (p1 : Int32) (p2 : Int32) (p3 : Int32) (m : ea_M)  (zZ : ea_O) (hZ : f_X11_call p1 p2 p3 m = some zZ) : ea_Met G yX11_call F_X11_call [.ref 0, .int p1, .int p2, .int p3] m zZ := by
  refine ea_met (F := F_X11_call) (by decide +kernel) rfl rfl (Nat.le_of_ble_eq_true rfl) (by simp only [List.mem_cons, List.not_mem_nil, or_false]; intro v hv; rcases hv with rfl | rfl | rfl | rfl <;> rfl) ((?_ : ea_E G F_X11_call zZ 0 [some (.ref 0), some (.int p1), some (.int p2), some (.int p3), none] [] m 0 0 (f_X11_call p1 p2 p3 m) (fun t => t = zZ)) zZ hZ rfl)
  have hR : ∀ t : ea_O, t = zZ → zZ = t := fun t h => h.symm
  unfold f_X11_call
  refine ev_aload_n (ea_at dt_X11_call 0 rfl) rfl ?_
  refine ev_iload_n (ea_at dt_X11_call 1 rfl) rfl ?_
  refine ev_cxU (F1 := F_X11_needCase) rfl (fun zY hY => ea_runV (As := [.int p1]) (ea_at dt_X11_call 2 rfl) ml_X11_190 mv_X11_needCase (ok_X11_needCase G p1 m  zY hY) sh_0 rfl rfl rfl (Nat.le_of_ble_eq_true rfl) rfl) rfl ⟨by decide, by decide⟩ (fun kx mx t e q => ⟨0, by cases e; exact hR _ q⟩) (fun r2 m1 => ?_)
  refine ev_aload_n (ea_at dt_X11_call 3 rfl) rfl ?_
  refine ev_iload_n (ea_at dt_X11_call 4 rfl) rfl ?_
  refine ev_cxU (F1 := F_X11_needBird) rfl (fun zY hY => ea_runV (As := [.int p2]) (ea_at dt_X11_call 5 rfl) ml_X11_157 mv_X11_needBird (ok_X11_needBird G p2 m1  zY hY) sh_0 rfl rfl rfl (Nat.le_of_ble_eq_true rfl) rfl) rfl ⟨by decide, by decide⟩ (fun kx mx t e q => ⟨0, by cases e; exact hR _ q⟩) (fun r4 m3 => ?_)
  refine ev_aload_n (ea_at dt_X11_call 6 rfl) rfl ?_
  refine ev_iload_n (ea_at dt_X11_call 7 rfl) rfl ?_
  refine ev_cxU (F1 := F_X11_needBird) rfl (fun zY hY => ea_runV (As := [.int p3]) (ea_at dt_X11_call 8 rfl) ml_X11_157 mv_X11_needBird (ok_X11_needBird G p3 m3  zY hY) sh_0 rfl rfl rfl (Nat.le_of_ble_eq_true rfl) rfl) rfl ⟨by decide, by decide⟩ (fun kx mx t e q => ⟨0, by cases e; exact hR _ q⟩) (fun r6 m5 => ?_)
  refine ev_aload_n (ea_at dt_X11_call 9 rfl) rfl ?_
  refine ev_getR (ea_at dt_X11_call 10 rfl) fl_X11_23 sh_0 rfl ?_
  refine ev_getR (ea_at dt_X11_call 11 rfl) fl_X11_180 sh_2 rfl ?_
  refine ev_astore (ls' := [some (.ref 0), some (.int p1), some (.int p2), some (.int p3), some (.ref 8)]) (ea_at dt_X11_call 12 rfl) (ea_lt rfl) rfl ?_
  refine ev_aload (ea_at dt_X11_call 13 rfl) rfl ?_
  refine ev_getR (ea_at dt_X11_call 14 rfl) fl_X11_202 sh_8 rfl ?_
  refine ev_iload_n (ea_at dt_X11_call 15 rfl) rfl ?_
  refine ev_iaload (ea_at dt_X11_call 16 rfl) sh_13 (by decide) ?_
  refine ev_i (fun x7 => ?_)
  refine ev_if_ne (tgt := 62) (ea_at dt_X11_call 17 rfl) rfl (fun _ => ?_) (fun _ => ?_)
  · refine ev_aload (ea_at dt_X11_call 18 rfl) rfl ?_
    refine ev_iload_n (ea_at dt_X11_call 19 rfl) rfl ?_
    refine ev_iconst (ea_at dt_X11_call 20 rfl) ic_0 ?_
    refine ev_clI (F1 := F_X1_choices) (fun rY mY hY => ea_runV (As := [.int p1, .int 0]) (ea_at dt_X11_call 21 rfl) ml_X11_205 mv_X1_choices (ok_X1_choices G 8 p1 0 m5 is_Bench_8 rY mY hY) sh_8 rfl rfl rfl (Nat.le_of_ble_eq_true rfl) rfl) rfl (fun r9 m8 => ?_)
    refine ev_iload_n (ea_at dt_X11_call 22 rfl) rfl ?_
    refine ev_ishr (ea_at dt_X11_call 23 rfl) ?_
    refine ev_iconst (ea_at dt_X11_call 24 rfl) ic_1 ?_
    refine ev_iand (ea_at dt_X11_call 25 rfl) ?_
    refine ev_i (fun x10 => ?_)
    refine ev_if_eq (tgt := 62) (ea_at dt_X11_call 26 rfl) rfl (fun _ => ?_) (fun _ => ?_)
    · exact ev_throwSW (kx := 3) (j := 41) (ea_at dt_X11_call 36 rfl) (ea_at dt_X11_call 37 rfl) (ea_at dt_X11_call 38 rfl) (ea_at dt_X11_call 39 rfl) (ea_at dt_X11_call 40 rfl) rfl (by decide) rfl (by decide +kernel) ea_tw3 cl_X11_276 ini_3 ml_X11_280 rfl ⟨by decide, by decide, by decide, by decide, by decide, by decide⟩ (fun h => ⟨0, hR _ h⟩)
    · refine ev_aload (ea_at dt_X11_call 27 rfl) rfl ?_
      refine ev_iload_n (ea_at dt_X11_call 28 rfl) rfl ?_
      refine ev_iconst (ea_at dt_X11_call 29 rfl) ic_1 ?_
      refine ev_clI (F1 := F_X1_choices) (fun rY mY hY => ea_runV (As := [.int p1, .int 1]) (ea_at dt_X11_call 30 rfl) ml_X11_205 mv_X1_choices (ok_X1_choices G 8 p1 1 m8 is_Bench_8 rY mY hY) sh_8 rfl rfl rfl (Nat.le_of_ble_eq_true rfl) rfl) rfl (fun r12 m11 => ?_)
      refine ev_iload_n (ea_at dt_X11_call 31 rfl) rfl ?_
      refine ev_ishr (ea_at dt_X11_call 32 rfl) ?_
      refine ev_iconst (ea_at dt_X11_call 33 rfl) ic_1 ?_
      refine ev_iand (ea_at dt_X11_call 34 rfl) ?_
      refine ev_i (fun x13 => ?_)
      refine ev_if_ne (tgt := 73) (ea_at dt_X11_call 35 rfl) rfl (fun _ => ?_) (fun _ => ?_)
      · exact ev_throwSW (kx := 3) (j := 41) (ea_at dt_X11_call 36 rfl) (ea_at dt_X11_call 37 rfl) (ea_at dt_X11_call 38 rfl) (ea_at dt_X11_call 39 rfl) (ea_at dt_X11_call 40 rfl) rfl (by decide) rfl (by decide +kernel) ea_tw3 cl_X11_276 ini_3 ml_X11_280 rfl ⟨by decide, by decide, by decide, by decide, by decide, by decide⟩ (fun h => ⟨0, hR _ h⟩)
      · refine ev_aload_n (ea_at dt_X11_call 41 rfl) rfl ?_
        refine ev_clU (F1 := F_X11_remember) (fun rY mY hY => ea_runV (As := []) (ea_at dt_X11_call 42 rfl) ml_X11_281 mv_X11_remember (ok_X11_remember G m11  rY mY hY) sh_0 rfl rfl rfl (Nat.le_of_ble_eq_true rfl) rfl) rfl (fun r15 m14 => ?_)
        refine ev_aload (ea_at dt_X11_call 43 rfl) rfl ?_
        refine ev_aload (ea_at dt_X11_call 44 rfl) rfl ?_
        refine ev_getR (ea_at dt_X11_call 45 rfl) fl_X11_193 sh_8 rfl ?_
        refine ev_iload_n (ea_at dt_X11_call 46 rfl) rfl ?_
        refine ev_iaload (ea_at dt_X11_call 47 rfl) sh_10 (by decide) ?_
        refine ev_i (fun x16 => ?_)
        refine ev_iload_n (ea_at dt_X11_call 48 rfl) rfl ?_
        refine ev_iconst (ea_at dt_X11_call 49 rfl) ic_m1 ?_
        refine ev_clI (F1 := F_X1_add) (fun rY mY hY => ea_runV (As := [.int x16, .int p2, .int (-1)]) (ea_at dt_X11_call 50 rfl) ml_X11_284 mv_X1_add (ok_X1_add G 8 x16 p2 (-1) m14 is_Bench_8 rY mY hY) sh_8 rfl rfl rfl (Nat.le_of_ble_eq_true rfl) rfl) rfl (fun r18 m17 => ?_)
        refine ev_pop (ea_at dt_X11_call 51 rfl) rfl ?_
        refine ev_aload (ea_at dt_X11_call 52 rfl) rfl ?_
        refine ev_aload (ea_at dt_X11_call 53 rfl) rfl ?_
        refine ev_getR (ea_at dt_X11_call 54 rfl) fl_X11_196 sh_8 rfl ?_
        refine ev_iload_n (ea_at dt_X11_call 55 rfl) rfl ?_
        refine ev_iaload (ea_at dt_X11_call 56 rfl) sh_11 (by decide) ?_
        refine ev_i (fun x19 => ?_)
        refine ev_iload_n (ea_at dt_X11_call 57 rfl) rfl ?_
        refine ev_iconst (ea_at dt_X11_call 58 rfl) ic_m1 ?_
        refine ev_clI (F1 := F_X1_add) (fun rY mY hY => ea_runV (As := [.int x19, .int p3, .int (-1)]) (ea_at dt_X11_call 59 rfl) ml_X11_284 mv_X1_add (ok_X1_add G 8 x19 p3 (-1) m17 is_Bench_8 rY mY hY) sh_8 rfl rfl rfl (Nat.le_of_ble_eq_true rfl) rfl) rfl (fun r21 m20 => ?_)
        refine ev_pop (ea_at dt_X11_call 60 rfl) rfl ?_
        refine ev_aload_n (ea_at dt_X11_call 61 rfl) rfl ?_
        refine ev_getR (ea_at dt_X11_call 62 rfl) fl_X11_83 sh_0 rfl ?_
        refine ev_iload_n (ea_at dt_X11_call 63 rfl) rfl ?_
        refine ev_iload_n (ea_at dt_X11_call 64 rfl) rfl ?_
        refine ev_aload_n (ea_at dt_X11_call 65 rfl) rfl ?_
        refine ev_getR (ea_at dt_X11_call 66 rfl) fl_X11_23 sh_0 rfl ?_
        refine ev_getI (ea_at dt_X11_call 67 rfl) fl_X11_288 sh_2 rfl ?_
        refine ev_i (fun x22 => ?_)
        refine ev_clU (F1 := F_X0_duel) (fun rY mY hY => ea_runV (As := [.int p2, .int p3, .int x22]) (ea_at dt_X11_call 68 rfl) ml_X11_291 mv_X0_duel (ok_X0_duel G p2 p3 x22 m20  rY mY hY) sh_73 rfl rfl rfl (Nat.le_of_ble_eq_true rfl) rfl) rfl (fun r24 m23 => ?_)
        refine ev_aload_n (ea_at dt_X11_call 69 rfl) rfl ?_
        refine ev_getR (ea_at dt_X11_call 70 rfl) fl_X11_23 sh_0 rfl ?_
        refine ev_aload_n (ea_at dt_X11_call 71 rfl) rfl ?_
        refine ev_getR (ea_at dt_X11_call 72 rfl) fl_X11_83 sh_0 rfl ?_
        refine ev_getI (ea_at dt_X11_call 73 rfl) fl_X11_294 sh_73 rfl ?_
        refine ev_i (fun x25 => ?_)
        refine ev_putI (ea_at dt_X11_call 74 rfl) fl_X11_288 fp_2_6 sh_2 rfl ?_
        refine ev_m (fun m26 => ?_)
        refine ev_aload (ea_at dt_X11_call 75 rfl) rfl ?_
        refine ev_getR (ea_at dt_X11_call 76 rfl) fl_X11_202 sh_8 rfl ?_
        refine ev_iload_n (ea_at dt_X11_call 77 rfl) rfl ?_
        refine ev_aload_n (ea_at dt_X11_call 78 rfl) rfl ?_
        refine ev_getR (ea_at dt_X11_call 79 rfl) fl_X11_83 sh_0 rfl ?_
        refine ev_clI (F1 := F_X0_ending) (fun rY mY hY => ea_runV (As := []) (ea_at dt_X11_call 80 rfl) ml_X11_295 mv_X0_ending (ok_X0_ending G m26  rY mY hY) sh_73 rfl rfl rfl (Nat.le_of_ble_eq_true rfl) rfl) rfl (fun r28 m27 => ?_)
        refine ev_iastore (ea_at dt_X11_call 81 rfl) sh_13 (by decide) ?_
        refine ev_m (fun m29 => ?_)
        refine ev_aload_n (ea_at dt_X11_call 82 rfl) rfl ?_
        refine ev_getR (ea_at dt_X11_call 83 rfl) fl_X11_23 sh_0 rfl ?_
        refine ev_getR (ea_at dt_X11_call 84 rfl) fl_X11_267 sh_2 rfl ?_
        refine ev_aload_n (ea_at dt_X11_call 85 rfl) rfl ?_
        refine ev_getR (ea_at dt_X11_call 86 rfl) fl_X11_23 sh_0 rfl ?_
        refine ev_getI (ea_at dt_X11_call 87 rfl) fl_X11_242 sh_2 rfl ?_
        refine ev_i (fun x30 => ?_)
        refine ev_iload_n (ea_at dt_X11_call 88 rfl) rfl ?_
        refine ev_clU (F1 := F_X6_open) (fun rY mY hY => ea_runV (As := [.int x30, .int p1]) (ea_at dt_X11_call 89 rfl) ml_X11_298 mv_X6_open (ok_X6_open G 14 x30 p1 m29 is_Journal_14 rY mY hY) sh_14 rfl rfl rfl (Nat.le_of_ble_eq_true rfl) rfl) rfl (fun r32 m31 => ?_)
        refine ev_aload_n (ea_at dt_X11_call 90 rfl) rfl ?_
        refine ev_getR (ea_at dt_X11_call 91 rfl) fl_X11_23 sh_0 rfl ?_
        refine ev_getR (ea_at dt_X11_call 92 rfl) fl_X11_267 sh_2 rfl ?_
        refine ev_iload_n (ea_at dt_X11_call 93 rfl) rfl ?_
        refine ev_iload_n (ea_at dt_X11_call 94 rfl) rfl ?_
        refine ev_aload_n (ea_at dt_X11_call 95 rfl) rfl ?_
        refine ev_getR (ea_at dt_X11_call 96 rfl) fl_X11_83 sh_0 rfl ?_
        refine ev_clI (F1 := F_X0_ending) (fun rY mY hY => ea_runV (As := []) (ea_at dt_X11_call 97 rfl) ml_X11_295 mv_X0_ending (ok_X0_ending G m31  rY mY hY) sh_73 rfl rfl rfl (Nat.le_of_ble_eq_true rfl) rfl) rfl (fun r34 m33 => ?_)
        refine ev_aload_n (ea_at dt_X11_call 98 rfl) rfl ?_
        refine ev_getR (ea_at dt_X11_call 99 rfl) fl_X11_83 sh_0 rfl ?_
        refine ev_clI (F1 := F_X0_firstGood) (fun rY mY hY => ea_runV (As := []) (ea_at dt_X11_call 100 rfl) ml_X11_301 mv_X0_firstGood (ok_X0_firstGood G m33  rY mY hY) sh_73 rfl rfl rfl (Nat.le_of_ble_eq_true rfl) rfl) rfl (fun r36 m35 => ?_)
        refine ev_clU (F1 := F_X6_write) (fun rY mY hY => ea_runV (As := [.int p2, .int p3, .int r34, .int r36]) (ea_at dt_X11_call 101 rfl) ml_X11_304 mv_X6_write (ok_X6_write G 14 p2 p3 r34 r36 m35 is_Journal_14 rY mY hY) sh_14 rfl rfl rfl (Nat.le_of_ble_eq_true rfl) rfl) rfl (fun r38 m37 => ?_)
        refine ev_aload (ea_at dt_X11_call 102 rfl) rfl ?_
        refine ev_getR (ea_at dt_X11_call 103 rfl) fl_X11_202 sh_8 rfl ?_
        refine ev_iload_n (ea_at dt_X11_call 104 rfl) rfl ?_
        refine ev_iaload (ea_at dt_X11_call 105 rfl) sh_13 (by decide) ?_
        refine ev_i (fun x39 => ?_)
        exact ev_iret (ea_at dt_X11_call 106 rfl) rfl ⟨by decide, by decide⟩ (fun h => hR _ h)
  · exact ev_throwSW (kx := 3) (j := 41) (ea_at dt_X11_call 36 rfl) (ea_at dt_X11_call 37 rfl) (ea_at dt_X11_call 38 rfl) (ea_at dt_X11_call 39 rfl) (ea_at dt_X11_call 40 rfl) rfl (by decide) rfl (by decide +kernel) ea_tw3 cl_X11_276 ini_3 ml_X11_280 rfl ⟨by decide, by decide, by decide, by decide, by decide, by decide⟩ (fun h => ⟨0, hR _ h⟩)
def F_X11_hour : ea_F := (ea_rm 11 1 6, cX11_hour, RX11, some .int, 3, [], 1, 6)
def D_X11_hour : List (Nat × Instr × Nat) := [(0, .aload_n 0, 1), (1, .iload_n 1, 1), (2, .iconst 0, 1), (3, .bipush 23, 2), (5, .invokevirtual 219, 3), (8, .aload_n 0, 1), (9, .invokevirtual 281, 3), (12, .aload_n 0, 1), (13, .getfield 23, 3), (16, .getfield 245, 3), (19, .istore_n 2, 1), (20, .aload_n 0, 1), (21, .getfield 23, 3), (24, .iload_n 1, 1), (25, .putfield 245, 3), (28, .aload_n 0, 1), (29, .invokevirtual 147, 3), (32, .iload_n 2, 1), (33, .ireturn, 1)]
theorem dt_X11_hour : ∀ q ∈ D_X11_hour, decode cX11_hour q.1 = .ok q.2 := by decide +kernel
theorem mv_X11_hour : ea_MV yX11_hour (F_X11_hour) 1 := ⟨⟨List.mem_append_right _ (List.mem_of_getElem? (i := 1) (by decide +kernel)), List.mem_append_right _ (List.mem_of_getElem? (i := 1148) (by decide +kernel)), ⟨by decide, by decide⟩, by decide +kernel⟩, List.mem_append_right _ (List.mem_of_getElem? (i := 1146) (by decide +kernel)), List.mem_append_right _ (List.mem_of_getElem? (i := 1147) (by decide +kernel))⟩
def f_X11_hour (p1 : Int32) (m : ea_M) : Option (ea_O) :=
  ea_cx (f_X11_needWithin p1 0 23 m) (fun r2 m1 =>
  ea_cl (f_X11_remember m1) fun r4 m3 =>
  ea_bd (m3 2 4) fun x5 =>
  ea_bd (ea_st m3 2 4 p1) fun m6 =>
  ea_cl (f_X11_forgetFates m6) fun r8 m7 =>
  some (0, x5, m7)) (fun kx mx => some (kx, 0, mx))
set_option maxHeartbeats 300000 in
theorem ok_X11_hour (G : ea_G) (p1 : Int32) (m : ea_M)  (zZ : ea_O) (hZ : f_X11_hour p1 m = some zZ) : ea_Met G yX11_hour F_X11_hour [.ref 0, .int p1] m zZ := by
  refine ea_met (F := F_X11_hour) (by decide +kernel) rfl rfl (Nat.le_of_ble_eq_true rfl) (by simp only [List.mem_cons, List.not_mem_nil, or_false]; intro v hv; rcases hv with rfl | rfl <;> rfl) ((?_ : ea_E G F_X11_hour zZ 0 [some (.ref 0), some (.int p1), none] [] m 0 0 (f_X11_hour p1 m) (fun t => t = zZ)) zZ hZ rfl)
  have hR : ∀ t : ea_O, t = zZ → zZ = t := fun t h => h.symm
  unfold f_X11_hour
  refine ev_aload_n (ea_at dt_X11_hour 0 rfl) rfl ?_
  refine ev_iload_n (ea_at dt_X11_hour 1 rfl) rfl ?_
  refine ev_iconst (ea_at dt_X11_hour 2 rfl) ic_0 ?_
  refine ev_bipush (ea_at dt_X11_hour 3 rfl) bp_23 ?_
  refine ev_cxU (F1 := F_X11_needWithin) rfl (fun zY hY => ea_runV (As := [.int p1, .int 0, .int 23]) (ea_at dt_X11_hour 4 rfl) ml_X11_219 mv_X11_needWithin (ok_X11_needWithin G p1 0 23 m  zY hY) sh_0 rfl rfl rfl (Nat.le_of_ble_eq_true rfl) rfl) rfl ⟨by decide, by decide⟩ (fun kx mx t e q => ⟨0, by cases e; exact hR _ q⟩) (fun r2 m1 => ?_)
  refine ev_aload_n (ea_at dt_X11_hour 5 rfl) rfl ?_
  refine ev_clU (F1 := F_X11_remember) (fun rY mY hY => ea_runV (As := []) (ea_at dt_X11_hour 6 rfl) ml_X11_281 mv_X11_remember (ok_X11_remember G m1  rY mY hY) sh_0 rfl rfl rfl (Nat.le_of_ble_eq_true rfl) rfl) rfl (fun r4 m3 => ?_)
  refine ev_aload_n (ea_at dt_X11_hour 7 rfl) rfl ?_
  refine ev_getR (ea_at dt_X11_hour 8 rfl) fl_X11_23 sh_0 rfl ?_
  refine ev_getI (ea_at dt_X11_hour 9 rfl) fl_X11_245 sh_2 rfl ?_
  refine ev_i (fun x5 => ?_)
  refine ev_istore_n (ls' := [some (.ref 0), some (.int p1), some (.int x5)]) (ea_at dt_X11_hour 10 rfl) (ea_lt rfl) rfl ?_
  refine ev_aload_n (ea_at dt_X11_hour 11 rfl) rfl ?_
  refine ev_getR (ea_at dt_X11_hour 12 rfl) fl_X11_23 sh_0 rfl ?_
  refine ev_iload_n (ea_at dt_X11_hour 13 rfl) rfl ?_
  refine ev_putI (ea_at dt_X11_hour 14 rfl) fl_X11_245 fp_2_4 sh_2 rfl ?_
  refine ev_m (fun m6 => ?_)
  refine ev_aload_n (ea_at dt_X11_hour 15 rfl) rfl ?_
  refine ev_clU (F1 := F_X11_forgetFates) (fun rY mY hY => ea_runV (As := []) (ea_at dt_X11_hour 16 rfl) ml_X11_147 mv_X11_forgetFates (ok_X11_forgetFates G m6  rY mY hY) sh_0 rfl rfl rfl (Nat.le_of_ble_eq_true rfl) rfl) rfl (fun r8 m7 => ?_)
  refine ev_iload_n (ea_at dt_X11_hour 17 rfl) rfl ?_
  exact ev_iret (ea_at dt_X11_hour 18 rfl) rfl ⟨by decide, by decide⟩ (fun h => hR _ h)
def F_X11_blow : ea_F := (ea_rm 11 2 12, cX11_blow, RX11, some .int, 4, [], 2, 12)
def D_X11_blow : List (Nat × Instr × Nat) := [(0, .aload_n 0, 1), (1, .iload_n 1, 1), (2, .iconst 0, 1), (3, .invokevirtual 209, 3), (6, .aload_n 0, 1), (7, .iload_n 2, 1), (8, .bipush (-3), 2), (10, .iconst 3, 1), (11, .invokevirtual 219, 3), (14, .aload_n 0, 1), (15, .invokevirtual 281, 3), (18, .aload_n 0, 1), (19, .getfield 23, 3), (22, .getfield 213, 3), (25, .iload_n 1, 1), (26, .iaload, 1), (27, .istore_n 3, 1), (28, .aload_n 0, 1), (29, .getfield 23, 3), (32, .getfield 213, 3), (35, .iload_n 1, 1), (36, .iload_n 2, 1), (37, .iastore, 1), (38, .aload_n 0, 1), (39, .invokevirtual 147, 3), (42, .iload_n 3, 1), (43, .ireturn, 1)]
theorem dt_X11_blow : ∀ q ∈ D_X11_blow, decode cX11_blow q.1 = .ok q.2 := by decide +kernel
theorem mv_X11_blow : ea_MV yX11_blow (F_X11_blow) 2 := ⟨⟨List.mem_append_right _ (List.mem_of_getElem? (i := 1) (by decide +kernel)), List.mem_append_right _ (List.mem_of_getElem? (i := 1155) (by decide +kernel)), ⟨by decide, by decide⟩, by decide +kernel⟩, List.mem_append_right _ (List.mem_of_getElem? (i := 1153) (by decide +kernel)), List.mem_append_right _ (List.mem_of_getElem? (i := 1154) (by decide +kernel))⟩
def f_X11_blow (p1 : Int32) (p2 : Int32) (m : ea_M) : Option (ea_O) :=
  ea_cx (f_X11_needLevel p1 0 m) (fun r2 m1 =>
  ea_cx (f_X11_needWithin p2 (-3) 3 m1) (fun r4 m3 =>
  ea_cl (f_X11_remember m3) fun r6 m5 =>
  ea_g p1 13 (ea_bd (m5 3 (Int32.toNatClampNeg p1)) fun x7 =>
  ea_g p1 13 (ea_bd (ea_st m5 3 (Int32.toNatClampNeg p1) p2) fun m8 =>
  ea_cl (f_X11_forgetFates m8) fun r10 m9 =>
  some (0, x7, m9)))) (fun kx mx => some (kx, 0, mx))) (fun kx mx => some (kx, 0, mx))
set_option maxHeartbeats 300000 in
theorem ok_X11_blow (G : ea_G) (p1 : Int32) (p2 : Int32) (m : ea_M)  (zZ : ea_O) (hZ : f_X11_blow p1 p2 m = some zZ) : ea_Met G yX11_blow F_X11_blow [.ref 0, .int p1, .int p2] m zZ := by
  refine ea_met (F := F_X11_blow) (by decide +kernel) rfl rfl (Nat.le_of_ble_eq_true rfl) (by simp only [List.mem_cons, List.not_mem_nil, or_false]; intro v hv; rcases hv with rfl | rfl | rfl <;> rfl) ((?_ : ea_E G F_X11_blow zZ 0 [some (.ref 0), some (.int p1), some (.int p2), none] [] m 0 0 (f_X11_blow p1 p2 m) (fun t => t = zZ)) zZ hZ rfl)
  have hR : ∀ t : ea_O, t = zZ → zZ = t := fun t h => h.symm
  unfold f_X11_blow
  refine ev_aload_n (ea_at dt_X11_blow 0 rfl) rfl ?_
  refine ev_iload_n (ea_at dt_X11_blow 1 rfl) rfl ?_
  refine ev_iconst (ea_at dt_X11_blow 2 rfl) ic_0 ?_
  refine ev_cxU (F1 := F_X11_needLevel) rfl (fun zY hY => ea_runV (As := [.int p1, .int 0]) (ea_at dt_X11_blow 3 rfl) ml_X11_209 mv_X11_needLevel (ok_X11_needLevel G p1 0 m  zY hY) sh_0 rfl rfl rfl (Nat.le_of_ble_eq_true rfl) rfl) rfl ⟨by decide, by decide⟩ (fun kx mx t e q => ⟨0, by cases e; exact hR _ q⟩) (fun r2 m1 => ?_)
  refine ev_aload_n (ea_at dt_X11_blow 4 rfl) rfl ?_
  refine ev_iload_n (ea_at dt_X11_blow 5 rfl) rfl ?_
  refine ev_bipush (ea_at dt_X11_blow 6 rfl) bp_m3 ?_
  refine ev_iconst (ea_at dt_X11_blow 7 rfl) ic_3 ?_
  refine ev_cxU (F1 := F_X11_needWithin) rfl (fun zY hY => ea_runV (As := [.int p2, .int (-3), .int 3]) (ea_at dt_X11_blow 8 rfl) ml_X11_219 mv_X11_needWithin (ok_X11_needWithin G p2 (-3) 3 m1  zY hY) sh_0 rfl rfl rfl (Nat.le_of_ble_eq_true rfl) rfl) rfl ⟨by decide, by decide⟩ (fun kx mx t e q => ⟨0, by cases e; exact hR _ q⟩) (fun r4 m3 => ?_)
  refine ev_aload_n (ea_at dt_X11_blow 9 rfl) rfl ?_
  refine ev_clU (F1 := F_X11_remember) (fun rY mY hY => ea_runV (As := []) (ea_at dt_X11_blow 10 rfl) ml_X11_281 mv_X11_remember (ok_X11_remember G m3  rY mY hY) sh_0 rfl rfl rfl (Nat.le_of_ble_eq_true rfl) rfl) rfl (fun r6 m5 => ?_)
  refine ev_aload_n (ea_at dt_X11_blow 11 rfl) rfl ?_
  refine ev_getR (ea_at dt_X11_blow 12 rfl) fl_X11_23 sh_0 rfl ?_
  refine ev_getR (ea_at dt_X11_blow 13 rfl) fl_X11_213 sh_2 rfl ?_
  refine ev_iload_n (ea_at dt_X11_blow 14 rfl) rfl ?_
  refine ev_iaload (ea_at dt_X11_blow 15 rfl) sh_3 (by decide) ?_
  refine ev_i (fun x7 => ?_)
  refine ev_istore_n (ls' := [some (.ref 0), some (.int p1), some (.int p2), some (.int x7)]) (ea_at dt_X11_blow 16 rfl) (ea_lt rfl) rfl ?_
  refine ev_aload_n (ea_at dt_X11_blow 17 rfl) rfl ?_
  refine ev_getR (ea_at dt_X11_blow 18 rfl) fl_X11_23 sh_0 rfl ?_
  refine ev_getR (ea_at dt_X11_blow 19 rfl) fl_X11_213 sh_2 rfl ?_
  refine ev_iload_n (ea_at dt_X11_blow 20 rfl) rfl ?_
  refine ev_iload_n (ea_at dt_X11_blow 21 rfl) rfl ?_
  refine ev_iastore (ea_at dt_X11_blow 22 rfl) sh_3 (by decide) ?_
  refine ev_m (fun m8 => ?_)
  refine ev_aload_n (ea_at dt_X11_blow 23 rfl) rfl ?_
  refine ev_clU (F1 := F_X11_forgetFates) (fun rY mY hY => ea_runV (As := []) (ea_at dt_X11_blow 24 rfl) ml_X11_147 mv_X11_forgetFates (ok_X11_forgetFates G m8  rY mY hY) sh_0 rfl rfl rfl (Nat.le_of_ble_eq_true rfl) rfl) rfl (fun r10 m9 => ?_)
  refine ev_iload_n (ea_at dt_X11_blow 25 rfl) rfl ?_
  exact ev_iret (ea_at dt_X11_blow 26 rfl) rfl ⟨by decide, by decide⟩ (fun h => hR _ h)
def F_X11_give : ea_F := (ea_rm 11 5 30, cX11_give, RX11, some .int, 5, [], 5, 30)
def D_X11_give : List (Nat × Instr × Nat) := [(0, .aload_n 0, 1), (1, .iload_n 1, 1), (2, .invokevirtual 177, 3), (5, .aload_n 0, 1), (6, .iload_n 2, 1), (7, .invokevirtual 177, 3), (10, .aload_n 0, 1), (11, .iload_n 3, 1), (12, .invokevirtual 157, 3), (15, .iload_n 1, 1), (16, .iload_n 2, 1), (17, .if_icmp .ne 14, 3), (20, .new 129, 3), (23, .dup, 1), (24, .ldc_w 307, 3), (27, .invokespecial 133, 3), (30, .athrow, 1), (31, .aload_n 0, 1), (32, .iload 4, 2), (34, .iconst 1, 1), (35, .aload_n 0, 1), (36, .getfield 23, 3), (39, .getfield 180, 3), (42, .iload_n 1, 1), (43, .iload_n 3, 1), (44, .invokevirtual 184, 3), (47, .invokevirtual 219, 3), (50, .aload_n 0, 1), (51, .invokevirtual 281, 3), (54, .aload_n 0, 1), (55, .getfield 23, 3), (58, .getfield 180, 3), (61, .iload_n 1, 1), (62, .iload_n 3, 1), (63, .iload 4, 2), (65, .ineg, 1), (66, .invokevirtual 284, 3), (69, .pop, 1), (70, .aload_n 0, 1), (71, .getfield 23, 3), (74, .getfield 180, 3), (77, .iload_n 2, 1), (78, .iload_n 3, 1), (79, .iload 4, 2), (81, .invokevirtual 284, 3), (84, .pop, 1), (85, .aload_n 0, 1), (86, .getfield 23, 3), (89, .getfield 180, 3), (92, .iload_n 2, 1), (93, .iload_n 3, 1), (94, .invokevirtual 184, 3), (97, .ireturn, 1)]
theorem dt_X11_give : ∀ q ∈ D_X11_give, decode cX11_give q.1 = .ok q.2 := by decide +kernel
theorem mv_X11_give : ea_MV yX11_give (F_X11_give) 4 := ⟨⟨List.mem_append_right _ (List.mem_of_getElem? (i := 1) (by decide +kernel)), List.mem_append_right _ (List.mem_of_getElem? (i := 1162) (by decide +kernel)), ⟨by decide, by decide⟩, by decide +kernel⟩, List.mem_append_right _ (List.mem_of_getElem? (i := 1160) (by decide +kernel)), List.mem_append_right _ (List.mem_of_getElem? (i := 1161) (by decide +kernel))⟩
def f_X11_give (p1 : Int32) (p2 : Int32) (p3 : Int32) (p4 : Int32) (m : ea_M) : Option (ea_O) :=
  ea_cx (f_X11_needCounsel p1 m) (fun r2 m1 =>
  ea_cx (f_X11_needCounsel p2 m1) (fun r4 m3 =>
  ea_cx (f_X11_needBird p3 m3) (fun r6 m5 =>
  if p1 = p2 then
  some (2, 0, m5)
  else
  ea_cl (f_X1_held 8 p1 p3 m5) fun r8 m7 =>
  ea_cx (f_X11_needWithin p4 1 r8 m7) (fun r10 m9 =>
  ea_cl (f_X11_remember m9) fun r12 m11 =>
  ea_cl (f_X1_add 8 p1 p3 (-p4) m11) fun r14 m13 =>
  ea_cl (f_X1_add 8 p2 p3 p4 m13) fun r16 m15 =>
  ea_cl (f_X1_held 8 p2 p3 m15) fun r18 m17 =>
  some (0, r18, m17)) (fun kx mx => some (kx, 0, mx))) (fun kx mx => some (kx, 0, mx))) (fun kx mx => some (kx, 0, mx))) (fun kx mx => some (kx, 0, mx))
set_option maxHeartbeats 300000 in
theorem ok_X11_give (G : ea_G) (p1 : Int32) (p2 : Int32) (p3 : Int32) (p4 : Int32) (m : ea_M)  (zZ : ea_O) (hZ : f_X11_give p1 p2 p3 p4 m = some zZ) : ea_Met G yX11_give F_X11_give [.ref 0, .int p1, .int p2, .int p3, .int p4] m zZ := by
  refine ea_met (F := F_X11_give) (by decide +kernel) rfl rfl (Nat.le_of_ble_eq_true rfl) (by simp only [List.mem_cons, List.not_mem_nil, or_false]; intro v hv; rcases hv with rfl | rfl | rfl | rfl | rfl <;> rfl) ((?_ : ea_E G F_X11_give zZ 0 [some (.ref 0), some (.int p1), some (.int p2), some (.int p3), some (.int p4)] [] m 0 0 (f_X11_give p1 p2 p3 p4 m) (fun t => t = zZ)) zZ hZ rfl)
  have hR : ∀ t : ea_O, t = zZ → zZ = t := fun t h => h.symm
  unfold f_X11_give
  refine ev_aload_n (ea_at dt_X11_give 0 rfl) rfl ?_
  refine ev_iload_n (ea_at dt_X11_give 1 rfl) rfl ?_
  refine ev_cxU (F1 := F_X11_needCounsel) rfl (fun zY hY => ea_runV (As := [.int p1]) (ea_at dt_X11_give 2 rfl) ml_X11_177 mv_X11_needCounsel (ok_X11_needCounsel G p1 m  zY hY) sh_0 rfl rfl rfl (Nat.le_of_ble_eq_true rfl) rfl) rfl ⟨by decide, by decide⟩ (fun kx mx t e q => ⟨0, by cases e; exact hR _ q⟩) (fun r2 m1 => ?_)
  refine ev_aload_n (ea_at dt_X11_give 3 rfl) rfl ?_
  refine ev_iload_n (ea_at dt_X11_give 4 rfl) rfl ?_
  refine ev_cxU (F1 := F_X11_needCounsel) rfl (fun zY hY => ea_runV (As := [.int p2]) (ea_at dt_X11_give 5 rfl) ml_X11_177 mv_X11_needCounsel (ok_X11_needCounsel G p2 m1  zY hY) sh_0 rfl rfl rfl (Nat.le_of_ble_eq_true rfl) rfl) rfl ⟨by decide, by decide⟩ (fun kx mx t e q => ⟨0, by cases e; exact hR _ q⟩) (fun r4 m3 => ?_)
  refine ev_aload_n (ea_at dt_X11_give 6 rfl) rfl ?_
  refine ev_iload_n (ea_at dt_X11_give 7 rfl) rfl ?_
  refine ev_cxU (F1 := F_X11_needBird) rfl (fun zY hY => ea_runV (As := [.int p3]) (ea_at dt_X11_give 8 rfl) ml_X11_157 mv_X11_needBird (ok_X11_needBird G p3 m3  zY hY) sh_0 rfl rfl rfl (Nat.le_of_ble_eq_true rfl) rfl) rfl ⟨by decide, by decide⟩ (fun kx mx t e q => ⟨0, by cases e; exact hR _ q⟩) (fun r6 m5 => ?_)
  refine ev_iload_n (ea_at dt_X11_give 9 rfl) rfl ?_
  refine ev_iload_n (ea_at dt_X11_give 10 rfl) rfl ?_
  refine ev_icmp_ne (tgt := 31) (ea_at dt_X11_give 11 rfl) rfl (fun _ => ?_) (fun _ => ?_)
  · exact ev_throwSW (kx := 2) (j := 42) (ea_at dt_X11_give 12 rfl) (ea_at dt_X11_give 13 rfl) (ea_at dt_X11_give 14 rfl) (ea_at dt_X11_give 15 rfl) (ea_at dt_X11_give 16 rfl) rfl (by decide) rfl (by decide +kernel) ea_tw2 cl_X11_129 ini_2 ml_X11_133 rfl ⟨by decide, by decide, by decide, by decide, by decide, by decide⟩ (fun h => ⟨0, hR _ h⟩)
  · refine ev_aload_n (ea_at dt_X11_give 17 rfl) rfl ?_
    refine ev_iload (ea_at dt_X11_give 18 rfl) rfl ?_
    refine ev_iconst (ea_at dt_X11_give 19 rfl) ic_1 ?_
    refine ev_aload_n (ea_at dt_X11_give 20 rfl) rfl ?_
    refine ev_getR (ea_at dt_X11_give 21 rfl) fl_X11_23 sh_0 rfl ?_
    refine ev_getR (ea_at dt_X11_give 22 rfl) fl_X11_180 sh_2 rfl ?_
    refine ev_iload_n (ea_at dt_X11_give 23 rfl) rfl ?_
    refine ev_iload_n (ea_at dt_X11_give 24 rfl) rfl ?_
    refine ev_clI (F1 := F_X1_held) (fun rY mY hY => ea_runV (As := [.int p1, .int p3]) (ea_at dt_X11_give 25 rfl) ml_X11_184 mv_X1_held (ok_X1_held G 8 p1 p3 m5 is_Bench_8 rY mY hY) sh_8 rfl rfl rfl (Nat.le_of_ble_eq_true rfl) rfl) rfl (fun r8 m7 => ?_)
    refine ev_cxU (F1 := F_X11_needWithin) rfl (fun zY hY => ea_runV (As := [.int p4, .int 1, .int r8]) (ea_at dt_X11_give 26 rfl) ml_X11_219 mv_X11_needWithin (ok_X11_needWithin G p4 1 r8 m7  zY hY) sh_0 rfl rfl rfl (Nat.le_of_ble_eq_true rfl) rfl) rfl ⟨by decide, by decide⟩ (fun kx mx t e q => ⟨0, by cases e; exact hR _ q⟩) (fun r10 m9 => ?_)
    refine ev_aload_n (ea_at dt_X11_give 27 rfl) rfl ?_
    refine ev_clU (F1 := F_X11_remember) (fun rY mY hY => ea_runV (As := []) (ea_at dt_X11_give 28 rfl) ml_X11_281 mv_X11_remember (ok_X11_remember G m9  rY mY hY) sh_0 rfl rfl rfl (Nat.le_of_ble_eq_true rfl) rfl) rfl (fun r12 m11 => ?_)
    refine ev_aload_n (ea_at dt_X11_give 29 rfl) rfl ?_
    refine ev_getR (ea_at dt_X11_give 30 rfl) fl_X11_23 sh_0 rfl ?_
    refine ev_getR (ea_at dt_X11_give 31 rfl) fl_X11_180 sh_2 rfl ?_
    refine ev_iload_n (ea_at dt_X11_give 32 rfl) rfl ?_
    refine ev_iload_n (ea_at dt_X11_give 33 rfl) rfl ?_
    refine ev_iload (ea_at dt_X11_give 34 rfl) rfl ?_
    refine ev_ineg (ea_at dt_X11_give 35 rfl) ?_
    refine ev_clI (F1 := F_X1_add) (fun rY mY hY => ea_runV (As := [.int p1, .int p3, .int (-p4)]) (ea_at dt_X11_give 36 rfl) ml_X11_284 mv_X1_add (ok_X1_add G 8 p1 p3 (-p4) m11 is_Bench_8 rY mY hY) sh_8 rfl rfl rfl (Nat.le_of_ble_eq_true rfl) rfl) rfl (fun r14 m13 => ?_)
    refine ev_pop (ea_at dt_X11_give 37 rfl) rfl ?_
    refine ev_aload_n (ea_at dt_X11_give 38 rfl) rfl ?_
    refine ev_getR (ea_at dt_X11_give 39 rfl) fl_X11_23 sh_0 rfl ?_
    refine ev_getR (ea_at dt_X11_give 40 rfl) fl_X11_180 sh_2 rfl ?_
    refine ev_iload_n (ea_at dt_X11_give 41 rfl) rfl ?_
    refine ev_iload_n (ea_at dt_X11_give 42 rfl) rfl ?_
    refine ev_iload (ea_at dt_X11_give 43 rfl) rfl ?_
    refine ev_clI (F1 := F_X1_add) (fun rY mY hY => ea_runV (As := [.int p2, .int p3, .int p4]) (ea_at dt_X11_give 44 rfl) ml_X11_284 mv_X1_add (ok_X1_add G 8 p2 p3 p4 m13 is_Bench_8 rY mY hY) sh_8 rfl rfl rfl (Nat.le_of_ble_eq_true rfl) rfl) rfl (fun r16 m15 => ?_)
    refine ev_pop (ea_at dt_X11_give 45 rfl) rfl ?_
    refine ev_aload_n (ea_at dt_X11_give 46 rfl) rfl ?_
    refine ev_getR (ea_at dt_X11_give 47 rfl) fl_X11_23 sh_0 rfl ?_
    refine ev_getR (ea_at dt_X11_give 48 rfl) fl_X11_180 sh_2 rfl ?_
    refine ev_iload_n (ea_at dt_X11_give 49 rfl) rfl ?_
    refine ev_iload_n (ea_at dt_X11_give 50 rfl) rfl ?_
    refine ev_clI (F1 := F_X1_held) (fun rY mY hY => ea_runV (As := [.int p2, .int p3]) (ea_at dt_X11_give 51 rfl) ml_X11_184 mv_X1_held (ok_X1_held G 8 p2 p3 m15 is_Bench_8 rY mY hY) sh_8 rfl rfl rfl (Nat.le_of_ble_eq_true rfl) rfl) rfl (fun r18 m17 => ?_)
    exact ev_iret (ea_at dt_X11_give 52 rfl) rfl ⟨by decide, by decide⟩ (fun h => hR _ h)
def F_X11_appeal : ea_F := (ea_rm 11 2 12, cX11_appeal, RX11, some .int, 3, [], 2, 12)
def D_X11_appeal : List (Nat × Instr × Nat) := [(0, .aload_n 0, 1), (1, .iload_n 1, 1), (2, .invokevirtual 190, 3), (5, .aload_n 0, 1), (6, .getfield 23, 3), (9, .getfield 180, 3), (12, .getfield 202, 3), (15, .iload_n 1, 1), (16, .iaload, 1), (17, .istore_n 2, 1), (18, .iload_n 2, 1), (19, .ifCond .ne 14, 3), (22, .new 276, 3), (25, .dup, 1), (26, .ldc_w 309, 3), (29, .invokespecial 280, 3), (32, .athrow, 1), (33, .aload_n 0, 1), (34, .invokevirtual 281, 3), (37, .aload_n 0, 1), (38, .getfield 23, 3), (41, .getfield 180, 3), (44, .getfield 202, 3), (47, .iload_n 1, 1), (48, .iconst 0, 1), (49, .iastore, 1), (50, .iload_n 2, 1), (51, .ireturn, 1)]
theorem dt_X11_appeal : ∀ q ∈ D_X11_appeal, decode cX11_appeal q.1 = .ok q.2 := by decide +kernel
theorem mv_X11_appeal : ea_MV yX11_appeal (F_X11_appeal) 1 := ⟨⟨List.mem_append_right _ (List.mem_of_getElem? (i := 1) (by decide +kernel)), List.mem_append_right _ (List.mem_of_getElem? (i := 1170) (by decide +kernel)), ⟨by decide, by decide⟩, by decide +kernel⟩, List.mem_append_right _ (List.mem_of_getElem? (i := 1168) (by decide +kernel)), List.mem_append_right _ (List.mem_of_getElem? (i := 1169) (by decide +kernel))⟩
def f_X11_appeal (p1 : Int32) (m : ea_M) : Option (ea_O) :=
  ea_cx (f_X11_needCase p1 m) (fun r2 m1 =>
  ea_g p1 12 (ea_bd (m1 13 (Int32.toNatClampNeg p1)) fun x3 =>
  if x3 = 0 then
  some (3, 0, m1)
  else
  ea_cl (f_X11_remember m1) fun r5 m4 =>
  ea_g p1 12 (ea_bd (ea_st m4 13 (Int32.toNatClampNeg p1) 0) fun m6 =>
  some (0, x3, m6)))) (fun kx mx => some (kx, 0, mx))
set_option maxHeartbeats 300000 in
theorem ok_X11_appeal (G : ea_G) (p1 : Int32) (m : ea_M)  (zZ : ea_O) (hZ : f_X11_appeal p1 m = some zZ) : ea_Met G yX11_appeal F_X11_appeal [.ref 0, .int p1] m zZ := by
  refine ea_met (F := F_X11_appeal) (by decide +kernel) rfl rfl (Nat.le_of_ble_eq_true rfl) (by simp only [List.mem_cons, List.not_mem_nil, or_false]; intro v hv; rcases hv with rfl | rfl <;> rfl) ((?_ : ea_E G F_X11_appeal zZ 0 [some (.ref 0), some (.int p1), none] [] m 0 0 (f_X11_appeal p1 m) (fun t => t = zZ)) zZ hZ rfl)
  have hR : ∀ t : ea_O, t = zZ → zZ = t := fun t h => h.symm
  unfold f_X11_appeal
  refine ev_aload_n (ea_at dt_X11_appeal 0 rfl) rfl ?_
  refine ev_iload_n (ea_at dt_X11_appeal 1 rfl) rfl ?_
  refine ev_cxU (F1 := F_X11_needCase) rfl (fun zY hY => ea_runV (As := [.int p1]) (ea_at dt_X11_appeal 2 rfl) ml_X11_190 mv_X11_needCase (ok_X11_needCase G p1 m  zY hY) sh_0 rfl rfl rfl (Nat.le_of_ble_eq_true rfl) rfl) rfl ⟨by decide, by decide⟩ (fun kx mx t e q => ⟨0, by cases e; exact hR _ q⟩) (fun r2 m1 => ?_)
  refine ev_aload_n (ea_at dt_X11_appeal 3 rfl) rfl ?_
  refine ev_getR (ea_at dt_X11_appeal 4 rfl) fl_X11_23 sh_0 rfl ?_
  refine ev_getR (ea_at dt_X11_appeal 5 rfl) fl_X11_180 sh_2 rfl ?_
  refine ev_getR (ea_at dt_X11_appeal 6 rfl) fl_X11_202 sh_8 rfl ?_
  refine ev_iload_n (ea_at dt_X11_appeal 7 rfl) rfl ?_
  refine ev_iaload (ea_at dt_X11_appeal 8 rfl) sh_13 (by decide) ?_
  refine ev_i (fun x3 => ?_)
  refine ev_istore_n (ls' := [some (.ref 0), some (.int p1), some (.int x3)]) (ea_at dt_X11_appeal 9 rfl) (ea_lt rfl) rfl ?_
  refine ev_iload_n (ea_at dt_X11_appeal 10 rfl) rfl ?_
  refine ev_if_ne (tgt := 33) (ea_at dt_X11_appeal 11 rfl) rfl (fun _ => ?_) (fun _ => ?_)
  · exact ev_throwSW (kx := 3) (j := 43) (ea_at dt_X11_appeal 12 rfl) (ea_at dt_X11_appeal 13 rfl) (ea_at dt_X11_appeal 14 rfl) (ea_at dt_X11_appeal 15 rfl) (ea_at dt_X11_appeal 16 rfl) rfl (by decide) rfl (by decide +kernel) ea_tw3 cl_X11_276 ini_3 ml_X11_280 rfl ⟨by decide, by decide, by decide, by decide, by decide, by decide⟩ (fun h => ⟨0, hR _ h⟩)
  · refine ev_aload_n (ea_at dt_X11_appeal 17 rfl) rfl ?_
    refine ev_clU (F1 := F_X11_remember) (fun rY mY hY => ea_runV (As := []) (ea_at dt_X11_appeal 18 rfl) ml_X11_281 mv_X11_remember (ok_X11_remember G m1  rY mY hY) sh_0 rfl rfl rfl (Nat.le_of_ble_eq_true rfl) rfl) rfl (fun r5 m4 => ?_)
    refine ev_aload_n (ea_at dt_X11_appeal 19 rfl) rfl ?_
    refine ev_getR (ea_at dt_X11_appeal 20 rfl) fl_X11_23 sh_0 rfl ?_
    refine ev_getR (ea_at dt_X11_appeal 21 rfl) fl_X11_180 sh_2 rfl ?_
    refine ev_getR (ea_at dt_X11_appeal 22 rfl) fl_X11_202 sh_8 rfl ?_
    refine ev_iload_n (ea_at dt_X11_appeal 23 rfl) rfl ?_
    refine ev_iconst (ea_at dt_X11_appeal 24 rfl) ic_0 ?_
    refine ev_iastore (ea_at dt_X11_appeal 25 rfl) sh_13 (by decide) ?_
    refine ev_m (fun m6 => ?_)
    refine ev_iload_n (ea_at dt_X11_appeal 26 rfl) rfl ?_
    exact ev_iret (ea_at dt_X11_appeal 27 rfl) rfl ⟨by decide, by decide⟩ (fun h => hR _ h)
