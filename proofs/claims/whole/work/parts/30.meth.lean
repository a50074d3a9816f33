def F_X12_tell : ea_F := (ea_rm 16 0 0, cX12_tell, RX12, some .int, 5, [], 0, 0)
def D_X12_tell : List (Nat × Instr × Nat) := [(0, .aload_n 0, 1), (1, .iconst 0, 1), (2, .putfield 3, 3), (5, .aload_n 0, 1), (6, .iload_n 1, 1), (7, .invokestatic 309, 3), (10, .iconst 1, 1), (11, .invokevirtual 265, 3), (14, .ifCond .ne 26, 3), (17, .aload_n 0, 1), (18, .iload_n 2, 1), (19, .iconst 1, 1), (20, .bipush 8, 2), (22, .invokestatic 78, 3), (25, .ifCond .ne 7, 3), (28, .iconst 1, 1), (29, .goto 4, 3), (32, .iconst 0, 1), (33, .iconst 2, 1), (34, .invokevirtual 265, 3), (37, .ifCond .eq 5, 3), (40, .iconst 0, 1), (41, .ireturn, 1), (42, .iconst 0, 1), (43, .istore_n 3, 1), (44, .iconst 0, 1), (45, .istore 4, 2), (47, .iload 4, 2), (49, .aload_n 0, 1), (50, .invokevirtual 74, 3), (53, .if_icmp .ge 35, 3), (56, .aload_n 0, 1), (57, .iload 4, 2), (59, .invokevirtual 347, 3), (62, .iload_n 3, 1), (63, .aload_n 0, 1), (64, .iload_n 2, 1), (65, .iload_n 1, 1), (66, .invokevirtual 341, 3), (69, .ifCond .le 10, 3), (72, .iconst 1, 1), (73, .iload 4, 2), (75, .ishl, 1), (76, .goto 4, 3), (79, .iconst 0, 1), (80, .ior, 1), (81, .istore_n 3, 1), (82, .iinc 4 1, 3), (85, .goto (-38), 3), (88, .iload_n 3, 1), (89, .ireturn, 1)]
theorem dt_X12_tell : ∀ q ∈ D_X12_tell, decode cX12_tell q.1 = .ok q.2 := by decide +kernel
theorem mv_X12_tell : ea_MV yX12_tell (F_X12_tell) 2 := ⟨⟨List.mem_append_right _ (List.mem_of_getElem? (i := 13) (by decide +kernel)), List.mem_append_right _ (List.mem_of_getElem? (i := 1791) (by decide +kernel)), ⟨by decide, by decide⟩, by decide +kernel⟩, List.mem_append_right _ (List.mem_of_getElem? (i := 1789) (by decide +kernel)), List.mem_append_right _ (List.mem_of_getElem? (i := 1790) (by decide +kernel))⟩
def f_X12_tell_j80 (p1 : Int32) (p2 : Int32) (x18 : Int32) (x19 : Int32) (x20 : Int32) (m21 : ea_M) : Option ((Int32 × Int32 × ea_M) ⊕ (Int32 × ea_M)) :=
  ea_bd (x19 ||| x20) fun x22 =>
  some (.inl (x22, x18 + 1, m21))
def f_X12_tell_s47 (p1 : Int32) (p2 : Int32)  (s47 : Int32 × Int32 × ea_M) : Option ((Int32 × Int32 × ea_M) ⊕ (Int32 × ea_M)) :=
  ea_cl (f_X12_birds s47.2.2) fun r13 m12 =>
  if r13 ≤ s47.2.1 then
  some (.inr (s47.1, m12))
  else
  ea_cl (f_X12_laysWays s47.2.1 m12) fun r15 m14 =>
  ea_cl (f_X12_landedAt p2 p1 m14) fun r17 m16 =>
  if r17 ≤ 0 then
  f_X12_tell_j80 p1 p2 s47.2.1 s47.1 0 m16
  else
  f_X12_tell_j80 p1 p2 s47.2.1 s47.1 (1 <<< (s47.2.1 &&& 31)) m16
def f_X12_tell_j33 (p1 : Int32) (p2 : Int32) (x8 : Int32) (m9 : ea_M) : Option (Int32 × ea_M) :=
  ea_cl (f_X12_throwsIf x8 2 m9) fun r11 m10 =>
  if r11 = 0 then
  (ea_loop (f_X12_tell_s47 p1 p2) ea_fuel (0, 0, m10)).bind (fun x47s =>
  some (x47s.1, x47s.2))
  else
  some (0, m10)
def f_X12_tell (p1 : Int32) (p2 : Int32) (m : ea_M) : Option (Int32 × ea_M) :=
  ea_bd (ea_st m 272 0 0) fun m1 =>
  ea_cl (f_X12_noColumn p1 m1) fun r3 m2 =>
  ea_cl (f_X12_throwsIf r3 1 m2) fun r5 m4 =>
  if r5 = 0 then
  ea_cl (f_X12_in p2 1 8 m4) fun r7 m6 =>
  if r7 = 0 then
  f_X12_tell_j33 p1 p2 1 m6
  else
  f_X12_tell_j33 p1 p2 0 m6
  else
  some (0, m4)
set_option maxHeartbeats 300000 in
theorem jn_X12_tell_80 (G : ea_G) {res : ea_O}  (p1 : Int32) (p2 : Int32) (x18 : Int32) (x19 : Int32) (x20 : Int32) (m21 : ea_M)  {Φ : ((Int32 × Int32 × ea_M) ⊕ (Int32 × ea_M)) → Prop} (hC : ∀ s47 : Int32 × Int32 × ea_M, Φ (.inl s47) → ea_Ev G F_X12_tell res 47 [some (.ref 272), some (.int p1), some (.int p2), some (.int s47.1), some (.int s47.2.1)] [] s47.2.2 0 0) (hX : ∀ x47s : Int32 × ea_M, Φ (.inr x47s) → ea_Ev G F_X12_tell res 88 [none, none, none, some (.int x47s.1), none] [] x47s.2 0 0) : ea_E G F_X12_tell res 80 [some (.ref 272), some (.int p1), some (.int p2), none, some (.int x18)] [.int x20, .int x19] m21 0 0 (f_X12_tell_j80 p1 p2 x18 x19 x20 m21) Φ := by
  unfold f_X12_tell_j80
  refine ev_ior (ea_at dt_X12_tell 45 rfl) ?_
  refine ev_i (fun x22 => ?_)
  refine ev_istore_n (ls' := [some (.ref 272), some (.int p1), some (.int p2), some (.int x22), some (.int x18)]) (ea_at dt_X12_tell 46 rfl) (ea_lt rfl) rfl ?_
  refine ev_iinc (ls' := [some (.ref 272), some (.int p1), some (.int p2), some (.int x22), some (.int (x18 + 1))]) (ea_at dt_X12_tell 47 rfl) rfl (congrArg (fun z => _ + z) ic_1) (ea_lt rfl) rfl ?_
  refine ev_goto (tgt := 47) (ea_at dt_X12_tell 48 rfl) rfl ?_
  exact ev_leaf (fun h => ea_drop (l' := [some (.ref 272), some (.int p1), some (.int p2), some (.int x22), some (.int (x18 + 1))]) ⟨Or.inr rfl, Or.inr rfl, Or.inr rfl, Or.inr rfl, Or.inr rfl, trivial⟩ (hC (x22, x18 + 1, m21) h))
set_option maxHeartbeats 300000 in
theorem lp_X12_tell_47 (G : ea_G) {res : ea_O}  (p1 : Int32) (p2 : Int32)  {Ψ : (Int32 × ea_M) → Prop} (hX : ∀ x47s : Int32 × ea_M, Ψ x47s → ea_Ev G F_X12_tell res 88 [none, none, none, some (.int x47s.1), none] [] x47s.2 0 0) : ∀ (f : Nat) (s47 : Int32 × Int32 × ea_M), ea_E G F_X12_tell res 47 [some (.ref 272), some (.int p1), some (.int p2), some (.int s47.1), some (.int s47.2.1)] [] s47.2.2 0 0 (ea_loop (f_X12_tell_s47 p1 p2) f s47) Ψ := by
  refine ev_loop (G := G) (F := F_X12_tell) (res := res) (pc := 47) (st := []) (k := 0) (n := 0) (step := (f_X12_tell_s47 p1 p2)) (Ψ := Ψ) (fun (s47 : Int32 × Int32 × ea_M) => [some (.ref 272), some (.int p1), some (.int p2), some (.int s47.1), some (.int s47.2.1)]) (fun (s47 : Int32 × Int32 × ea_M) => s47.2.2) (fun s47 => ?_)
  have hC : ∀ s47 : Int32 × Int32 × ea_M, (Sum.elim (fun s47 : Int32 × Int32 × ea_M => ea_Ev G F_X12_tell res 47 [some (.ref 272), some (.int p1), some (.int p2), some (.int s47.1), some (.int s47.2.1)] [] s47.2.2 0 0) Ψ) (.inl s47) → ea_Ev G F_X12_tell res 47 [some (.ref 272), some (.int p1), some (.int p2), some (.int s47.1), some (.int s47.2.1)] [] s47.2.2 0 0 := fun _ h => h
  have hX : ∀ x47s : Int32 × ea_M, (Sum.elim (fun s47 : Int32 × Int32 × ea_M => ea_Ev G F_X12_tell res 47 [some (.ref 272), some (.int p1), some (.int p2), some (.int s47.1), some (.int s47.2.1)] [] s47.2.2 0 0) Ψ) (.inr x47s) → ea_Ev G F_X12_tell res 88 [none, none, none, some (.int x47s.1), none] [] x47s.2 0 0 := hX
  unfold f_X12_tell_s47
  refine ev_iload (ea_at dt_X12_tell 27 rfl) rfl ?_
  refine ev_aload_n (ea_at dt_X12_tell 28 rfl) rfl ?_
  refine ev_clI (F1 := F_X12_birds) (fun rY mY hY => ea_runV (As := []) (ea_at dt_X12_tell 29 rfl) ml_X12_74 mv_X12_birds (ok_X12_birds G s47.2.2  rY mY hY) sh_272 rfl rfl rfl (Nat.le_of_ble_eq_true rfl) rfl) rfl (fun r13 m12 => ?_)
  refine ev_icmp_ge (tgt := 88) (ea_at dt_X12_tell 30 rfl) rfl (fun _ => ?_) (fun _ => ?_)
  · exact ev_leaf (fun h => ea_drop (l' := [none, none, none, some (.int s47.1), none]) ⟨Or.inl rfl, Or.inl rfl, Or.inl rfl, Or.inr rfl, Or.inl rfl, trivial⟩ (hX (s47.1, m12) h))
  · refine ev_aload_n (ea_at dt_X12_tell 31 rfl) rfl ?_
    refine ev_iload (ea_at dt_X12_tell 32 rfl) rfl ?_
    refine ev_clU (F1 := F_X12_laysWays) (fun rY mY hY => ea_runV (As := [.int s47.2.1]) (ea_at dt_X12_tell 33 rfl) ml_X12_347 mv_X12_laysWays (ok_X12_laysWays G s47.2.1 m12  rY mY hY) sh_272 rfl rfl rfl (Nat.le_of_ble_eq_true rfl) rfl) rfl (fun r15 m14 => ?_)
    refine ev_iload_n (ea_at dt_X12_tell 34 rfl) rfl ?_
    refine ev_aload_n (ea_at dt_X12_tell 35 rfl) rfl ?_
    refine ev_iload_n (ea_at dt_X12_tell 36 rfl) rfl ?_
    refine ev_iload_n (ea_at dt_X12_tell 37 rfl) rfl ?_
    refine ev_clI (F1 := F_X12_landedAt) (fun rY mY hY => ea_runV (As := [.int p2, .int p1]) (ea_at dt_X12_tell 38 rfl) ml_X12_341 mv_X12_landedAt (ok_X12_landedAt G p2 p1 m14  rY mY hY) sh_272 rfl rfl rfl (Nat.le_of_ble_eq_true rfl) rfl) rfl (fun r17 m16 => ?_)
    refine ev_if_le (tgt := 79) (ea_at dt_X12_tell 39 rfl) rfl (fun _ => ?_) (fun _ => ?_)
    · refine ev_iconst (ea_at dt_X12_tell 44 rfl) ic_0 ?_
      exact ev_drop (l' := [some (.ref 272), some (.int p1), some (.int p2), none, some (.int s47.2.1)]) ⟨Or.inr rfl, Or.inr rfl, Or.inr rfl, Or.inl rfl, Or.inr rfl, trivial⟩ (jn_X12_tell_80 G p1 p2 s47.2.1 s47.1 0 m16  hC hX)
    · refine ev_iconst (ea_at dt_X12_tell 40 rfl) ic_1 ?_
      refine ev_iload (ea_at dt_X12_tell 41 rfl) rfl ?_
      refine ev_ishl (ea_at dt_X12_tell 42 rfl) ?_
      refine ev_goto (tgt := 80) (ea_at dt_X12_tell 43 rfl) rfl ?_
      exact ev_drop (l' := [some (.ref 272), some (.int p1), some (.int p2), none, some (.int s47.2.1)]) ⟨Or.inr rfl, Or.inr rfl, Or.inr rfl, Or.inl rfl, Or.inr rfl, trivial⟩ (jn_X12_tell_80 G p1 p2 s47.2.1 s47.1 (1 <<< (s47.2.1 &&& 31)) m16  hC hX)
set_option maxHeartbeats 300000 in
theorem jn_X12_tell_33 (G : ea_G) {res : ea_O}  (p1 : Int32) (p2 : Int32) (x8 : Int32) (m9 : ea_M)  {Φ : (Int32 × ea_M) → Prop} (hR : ∀ t : Int32 × ea_M, Φ t → res = (0, t)) : ea_E G F_X12_tell res 33 [some (.ref 272), some (.int p1), some (.int p2), none, none] [.int x8, .ref 272] m9 0 0 (f_X12_tell_j33 p1 p2 x8 m9) Φ := by
  unfold f_X12_tell_j33
  refine ev_iconst (ea_at dt_X12_tell 18 rfl) ic_2 ?_
  refine ev_clI (F1 := F_X12_throwsIf) (fun rY mY hY => ea_runV (As := [.int x8, .int 2]) (ea_at dt_X12_tell 19 rfl) ml_X12_265 mv_X12_throwsIf (ok_X12_throwsIf G x8 2 m9  rY mY hY) sh_272 rfl rfl rfl (Nat.le_of_ble_eq_true rfl) rfl) rfl (fun r11 m10 => ?_)
  refine ev_if_eq (tgt := 42) (ea_at dt_X12_tell 20 rfl) rfl (fun _ => ?_) (fun _ => ?_)
  · refine ev_iconst (ea_at dt_X12_tell 23 rfl) ic_0 ?_
    refine ev_istore_n (ls' := [some (.ref 272), some (.int p1), some (.int p2), some (.int 0), none]) (ea_at dt_X12_tell 24 rfl) (ea_lt rfl) rfl ?_
    refine ev_iconst (ea_at dt_X12_tell 25 rfl) ic_0 ?_
    refine ev_istore (ls' := [some (.ref 272), some (.int p1), some (.int p2), some (.int 0), some (.int 0)]) (ea_at dt_X12_tell 26 rfl) (ea_lt rfl) rfl ?_
    refine ev_drop (l' := [some (.ref 272), some (.int p1), some (.int p2), some (.int 0), some (.int 0)]) ⟨Or.inr rfl, Or.inr rfl, Or.inr rfl, Or.inr rfl, Or.inr rfl, trivial⟩ ?_
    refine ev_bind (lp_X12_tell_47 G p1 p2   (fun x47s h => ?_) ea_fuel (0, 0, m10))
    obtain ⟨t1, e1, q1⟩ := h
    refine (?_ : ea_E G F_X12_tell res 88 [none, none, none, some (.int x47s.1), none] [] x47s.2 0 0 _ Φ) t1 e1 q1
    refine ev_iload_n (ea_at dt_X12_tell 49 rfl) rfl ?_
    exact ev_iret (ea_at dt_X12_tell 50 rfl) rfl ⟨by decide, by decide⟩ (fun h => hR _ h)
  · refine ev_iconst (ea_at dt_X12_tell 21 rfl) ic_0 ?_
    exact ev_iret (ea_at dt_X12_tell 22 rfl) rfl ⟨by decide, by decide⟩ (fun h => hR _ h)
set_option maxHeartbeats 300000 in
theorem ok_X12_tell (G : ea_G) (p1 : Int32) (p2 : Int32) (m : ea_M)  (rZ : Int32) (mZ : ea_M) (hZ : f_X12_tell p1 p2 m = some (rZ, mZ)) : ea_Met G yX12_tell F_X12_tell [.ref 272, .int p1, .int p2] m (0, rZ, mZ) := by
  refine ea_met (F := F_X12_tell) (by decide +kernel) rfl rfl (Nat.le_of_ble_eq_true rfl) (by simp only [List.mem_cons, List.not_mem_nil, or_false]; intro v hv; rcases hv with rfl | rfl | rfl <;> rfl) ((?_ : ea_E G F_X12_tell (0, rZ, mZ) 0 [some (.ref 272), some (.int p1), some (.int p2), none, none] [] m 0 0 (f_X12_tell p1 p2 m) (fun t => t = (rZ, mZ))) (rZ, mZ) hZ rfl)
  have hR : ∀ t : Int32 × ea_M, t = (rZ, mZ) → ((0, rZ, mZ) : ea_O) = (0, t) := fun t h => by rw [h]
  unfold f_X12_tell
  refine ev_aload_n (ea_at dt_X12_tell 0 rfl) rfl ?_
  refine ev_iconst (ea_at dt_X12_tell 1 rfl) ic_0 ?_
  refine ev_putI (ea_at dt_X12_tell 2 rfl) fl_X12_3 fp_12_0 sh_272 rfl ?_
  refine ev_m (fun m1 => ?_)
  refine ev_aload_n (ea_at dt_X12_tell 3 rfl) rfl ?_
  refine ev_iload_n (ea_at dt_X12_tell 4 rfl) rfl ?_
  refine ev_clI (F1 := F_X12_noColumn) (fun rY mY hY => ea_runS (As := [.int p1]) (ea_at dt_X12_tell 5 rfl) ml_X12_309 mv_X12_noColumn (ok_X12_noColumn G p1 m1  rY mY hY) rfl rfl (Nat.le_of_ble_eq_true rfl) rfl) rfl (fun r3 m2 => ?_)
  refine ev_iconst (ea_at dt_X12_tell 6 rfl) ic_1 ?_
  refine ev_clI (F1 := F_X12_throwsIf) (fun rY mY hY => ea_runV (As := [.int r3, .int 1]) (ea_at dt_X12_tell 7 rfl) ml_X12_265 mv_X12_throwsIf (ok_X12_throwsIf G r3 1 m2  rY mY hY) sh_272 rfl rfl rfl (Nat.le_of_ble_eq_true rfl) rfl) rfl (fun r5 m4 => ?_)
  refine ev_if_ne (tgt := 40) (ea_at dt_X12_tell 8 rfl) rfl (fun _ => ?_) (fun _ => ?_)
  · refine ev_aload_n (ea_at dt_X12_tell 9 rfl) rfl ?_
    refine ev_iload_n (ea_at dt_X12_tell 10 rfl) rfl ?_
    refine ev_iconst (ea_at dt_X12_tell 11 rfl) ic_1 ?_
    refine ev_bipush (ea_at dt_X12_tell 12 rfl) bp_8 ?_
    refine ev_clI (F1 := F_X12_in) (fun rY mY hY => ea_runS (As := [.int p2, .int 1, .int 8]) (ea_at dt_X12_tell 13 rfl) ml_X12_78 mv_X12_in (ok_X12_in G p2 1 8 m4  rY mY hY) rfl rfl (Nat.le_of_ble_eq_true rfl) rfl) rfl (fun r7 m6 => ?_)
    refine ev_if_ne (tgt := 32) (ea_at dt_X12_tell 14 rfl) rfl (fun _ => ?_) (fun _ => ?_)
    · refine ev_iconst (ea_at dt_X12_tell 15 rfl) ic_1 ?_
      refine ev_goto (tgt := 33) (ea_at dt_X12_tell 16 rfl) rfl ?_
      exact ev_drop (l' := [some (.ref 272), some (.int p1), some (.int p2), none, none]) ⟨Or.inr rfl, Or.inr rfl, Or.inr rfl, Or.inl rfl, Or.inl rfl, trivial⟩ (jn_X12_tell_33 G p1 p2 1 m6  hR)
    · refine ev_iconst (ea_at dt_X12_tell 17 rfl) ic_0 ?_
      exact ev_drop (l' := [some (.ref 272), some (.int p1), some (.int p2), none, none]) ⟨Or.inr rfl, Or.inr rfl, Or.inr rfl, Or.inl rfl, Or.inl rfl, trivial⟩ (jn_X12_tell_33 G p1 p2 0 m6  hR)
  · refine ev_iconst (ea_at dt_X12_tell 21 rfl) ic_0 ?_
    exact ev_iret (ea_at dt_X12_tell 22 rfl) rfl ⟨by decide, by decide⟩ (fun h => hR _ h)
def F_X12_widest : ea_F := (ea_rm 16 0 0, cX12_widest, RX12, some .int, 8, [], 0, 0)
def D_X12_widest : List (Nat × Instr × Nat) := [(0, .aload_n 0, 1), (1, .iconst 0, 1), (2, .putfield 3, 3), (5, .aload_n 0, 1), (6, .aload_n 0, 1), (7, .iload_n 1, 1), (8, .invokevirtual 303, 3), (11, .iconst 1, 1), (12, .invokevirtual 265, 3), (15, .ifCond .eq 5, 3), (18, .iconst 0, 1), (19, .ireturn, 1), (20, .aload_n 0, 1), (21, .getfield 13, 3), (24, .bipush 9, 2), (26, .iaload, 1), (27, .istore_n 2, 1), (28, .aload_n 0, 1), (29, .getfield 13, 3), (32, .bipush 10, 2), (34, .iaload, 1), (35, .iload_n 2, 1), (36, .isub, 1), (37, .istore_n 3, 1), (38, .iconst 0, 1), (39, .istore 4, 2), (41, .iconst (-1), 1), (42, .istore 5, 2), (44, .iconst 0, 1), (45, .istore 6, 2), (47, .iload 6, 2), (49, .iload_n 3, 1), (50, .iadd, 1), (51, .bipush 16, 2), (53, .if_icmp .ge 65, 3), (56, .aload_n 0, 1), (57, .getfield 13, 3), (60, .bipush 9, 2), (62, .iload 6, 2), (64, .iastore, 1), (65, .aload_n 0, 1), (66, .getfield 13, 3), (69, .bipush 10, 2), (71, .iload 6, 2), (73, .iload_n 3, 1), (74, .iadd, 1), (75, .iastore, 1), (76, .aload_n 0, 1), (77, .iload_n 1, 1), (78, .invokevirtual 347, 3), (81, .aload_n 0, 1), (82, .invokevirtual 351, 3), (85, .istore 7, 2), (87, .iload 7, 2), (89, .iload 5, 2), (91, .if_icmp .le 8, 3), (94, .iload 6, 2), (96, .goto 5, 3), (99, .iload 4, 2), (101, .istore 4, 2), (103, .iload 5, 2), (105, .iload 7, 2), (107, .invokestatic 300, 3), (110, .istore 5, 2), (112, .iinc 6 1, 3), (115, .goto (-68), 3), (118, .aload_n 0, 1), (119, .getfield 13, 3), (122, .bipush 9, 2), (124, .iload_n 2, 1), (125, .iastore, 1), (126, .aload_n 0, 1), (127, .getfield 13, 3), (130, .bipush 10, 2), (132, .iload_n 2, 1), (133, .iload_n 3, 1), (134, .iadd, 1), (135, .iastore, 1), (136, .iload 4, 2), (138, .ireturn, 1)]
theorem dt_X12_widest : ∀ q ∈ D_X12_widest, decode cX12_widest q.1 = .ok q.2 := by decide +kernel
theorem mv_X12_widest : ea_MV yX12_widest (F_X12_widest) 1 := ⟨⟨List.mem_append_right _ (List.mem_of_getElem? (i := 13) (by decide +kernel)), List.mem_append_right _ (List.mem_of_getElem? (i := 1795) (by decide +kernel)), ⟨by decide, by decide⟩, by decide +kernel⟩, List.mem_append_right _ (List.mem_of_getElem? (i := 1793) (by decide +kernel)), List.mem_append_right _ (List.mem_of_getElem? (i := 1794) (by decide +kernel))⟩
def f_X12_widest_j101 (p1 : Int32) (x6 : Int32) (x8 : Int32) (x15 : Int32) (x16 : Int32) (x17 : Int32) (x18 : Int32) (m19 : ea_M) : Option ((Int32 × Int32 × Int32 × ea_M) ⊕ (Int32 × ea_M)) :=
  ea_bd (ea_max x15 x17) fun x20 =>
  some (.inl (x18, x20, x16 + 1, m19))
def f_X12_widest_s47 (p1 : Int32) (x6 : Int32) (x8 : Int32)  (s47 : Int32 × Int32 × Int32 × ea_M) : Option ((Int32 × Int32 × Int32 × ea_M) ⊕ (Int32 × ea_M)) :=
  if 16 ≤ (s47.2.2.1 + x8) then
  some (.inr (s47.1, s47.2.2.2))
  else
  ea_bd (ea_st s47.2.2.2 273 9 s47.2.2.1) fun m9 =>
  ea_bd (ea_st m9 273 10 (s47.2.2.1 + x8)) fun m10 =>
  ea_cl (f_X12_laysWays p1 m10) fun r12 m11 =>
  ea_cl (f_X12_goodAll m11) fun r14 m13 =>
  if r14 ≤ s47.2.1 then
  f_X12_widest_j101 p1 x6 x8 s47.2.1 s47.2.2.1 r14 s47.1 m13
  else
  f_X12_widest_j101 p1 x6 x8 s47.2.1 s47.2.2.1 r14 s47.2.2.1 m13
def f_X12_widest (p1 : Int32) (m : ea_M) : Option (Int32 × ea_M) :=
  ea_bd (ea_st m 272 0 0) fun m1 =>
  ea_cl (f_X12_noBird p1 m1) fun r3 m2 =>
  ea_cl (f_X12_throwsIf r3 1 m2) fun r5 m4 =>
  if r5 = 0 then
  ea_bd (m4 273 9) fun x6 =>
  ea_bd (m4 273 10) fun x7 =>
  ea_bd (x7 - x6) fun x8 =>
  (ea_loop (f_X12_widest_s47 p1 x6 x8) ea_fuel (0, (-1), 0, m4)).bind (fun x47s =>
  ea_bd (ea_st x47s.2 273 9 x6) fun m21 =>
  ea_bd (ea_st m21 273 10 (x6 + x8)) fun m22 =>
  some (x47s.1, m22))
  else
  some (0, m4)
set_option maxHeartbeats 300000 in
theorem jn_X12_widest_101 (G : ea_G) {res : ea_O}  (p1 : Int32) (x6 : Int32) (x8 : Int32) (x15 : Int32) (x16 : Int32) (x17 : Int32) (x18 : Int32) (m19 : ea_M)  {Φ : ((Int32 × Int32 × Int32 × ea_M) ⊕ (Int32 × ea_M)) → Prop} (hC : ∀ s47 : Int32 × Int32 × Int32 × ea_M, Φ (.inl s47) → ea_Ev G F_X12_widest res 47 [some (.ref 272), some (.int p1), some (.int x6), some (.int x8), some (.int s47.1), some (.int s47.2.1), some (.int s47.2.2.1), none] [] s47.2.2.2 0 0) (hX : ∀ x47s : Int32 × ea_M, Φ (.inr x47s) → ea_Ev G F_X12_widest res 118 [some (.ref 272), none, some (.int x6), some (.int x8), some (.int x47s.1), none, none, none] [] x47s.2 0 0) : ea_E G F_X12_widest res 101 [some (.ref 272), some (.int p1), some (.int x6), some (.int x8), none, some (.int x15), some (.int x16), some (.int x17)] [.int x18] m19 0 0 (f_X12_widest_j101 p1 x6 x8 x15 x16 x17 x18 m19) Φ := by
  unfold f_X12_widest_j101
  refine ev_istore (ls' := [some (.ref 272), some (.int p1), some (.int x6), some (.int x8), some (.int x18), some (.int x15), some (.int x16), some (.int x17)]) (ea_at dt_X12_widest 59 rfl) (ea_lt rfl) rfl ?_
  refine ev_iload (ea_at dt_X12_widest 60 rfl) rfl ?_
  refine ev_iload (ea_at dt_X12_widest 61 rfl) rfl ?_
  refine ev_mmax (ea_at dt_X12_widest 62 rfl) ml_X12_300 ea_maW_max ⟨by decide, Nat.le_of_ble_eq_true rfl, by decide, by decide⟩ ?_
  refine ev_i (fun x20 => ?_)
  refine ev_istore (ls' := [some (.ref 272), some (.int p1), some (.int x6), some (.int x8), some (.int x18), some (.int x20), some (.int x16), some (.int x17)]) (ea_at dt_X12_widest 63 rfl) (ea_lt rfl) rfl ?_
  refine ev_iinc (ls' := [some (.ref 272), some (.int p1), some (.int x6), some (.int x8), some (.int x18), some (.int x20), some (.int (x16 + 1)), some (.int x17)]) (ea_at dt_X12_widest 64 rfl) rfl (congrArg (fun z => _ + z) ic_1) (ea_lt rfl) rfl ?_
  refine ev_goto (tgt := 47) (ea_at dt_X12_widest 65 rfl) rfl ?_
  exact ev_leaf (fun h => ea_drop (l' := [some (.ref 272), some (.int p1), some (.int x6), some (.int x8), some (.int x18), some (.int x20), some (.int (x16 + 1)), none]) ⟨Or.inr rfl, Or.inr rfl, Or.inr rfl, Or.inr rfl, Or.inr rfl, Or.inr rfl, Or.inr rfl, Or.inl rfl, trivial⟩ (hC (x18, x20, x16 + 1, m19) h))
set_option maxHeartbeats 300000 in
theorem lp_X12_widest_47 (G : ea_G) {res : ea_O}  (p1 : Int32) (x6 : Int32) (x8 : Int32)  {Ψ : (Int32 × ea_M) → Prop} (hX : ∀ x47s : Int32 × ea_M, Ψ x47s → ea_Ev G F_X12_widest res 118 [some (.ref 272), none, some (.int x6), some (.int x8), some (.int x47s.1), none, none, none] [] x47s.2 0 0) : ∀ (f : Nat) (s47 : Int32 × Int32 × Int32 × ea_M), ea_E G F_X12_widest res 47 [some (.ref 272), some (.int p1), some (.int x6), some (.int x8), some (.int s47.1), some (.int s47.2.1), some (.int s47.2.2.1), none] [] s47.2.2.2 0 0 (ea_loop (f_X12_widest_s47 p1 x6 x8) f s47) Ψ := by
  refine ev_loop (G := G) (F := F_X12_widest) (res := res) (pc := 47) (st := []) (k := 0) (n := 0) (step := (f_X12_widest_s47 p1 x6 x8)) (Ψ := Ψ) (fun (s47 : Int32 × Int32 × Int32 × ea_M) => [some (.ref 272), some (.int p1), some (.int x6), some (.int x8), some (.int s47.1), some (.int s47.2.1), some (.int s47.2.2.1), none]) (fun (s47 : Int32 × Int32 × Int32 × ea_M) => s47.2.2.2) (fun s47 => ?_)
  have hC : ∀ s47 : Int32 × Int32 × Int32 × ea_M, (Sum.elim (fun s47 : Int32 × Int32 × Int32 × ea_M => ea_Ev G F_X12_widest res 47 [some (.ref 272), some (.int p1), some (.int x6), some (.int x8), some (.int s47.1), some (.int s47.2.1), some (.int s47.2.2.1), none] [] s47.2.2.2 0 0) Ψ) (.inl s47) → ea_Ev G F_X12_widest res 47 [some (.ref 272), some (.int p1), some (.int x6), some (.int x8), some (.int s47.1), some (.int s47.2.1), some (.int s47.2.2.1), none] [] s47.2.2.2 0 0 := fun _ h => h
  have hX : ∀ x47s : Int32 × ea_M, (Sum.elim (fun s47 : Int32 × Int32 × Int32 × ea_M => ea_Ev G F_X12_widest res 47 [some (.ref 272), some (.int p1), some (.int x6), some (.int x8), some (.int s47.1), some (.int s47.2.1), some (.int s47.2.2.1), none] [] s47.2.2.2 0 0) Ψ) (.inr x47s) → ea_Ev G F_X12_widest res 118 [some (.ref 272), none, some (.int x6), some (.int x8), some (.int x47s.1), none, none, none] [] x47s.2 0 0 := hX
  unfold f_X12_widest_s47
  refine ev_iload (ea_at dt_X12_widest 30 rfl) rfl ?_
  refine ev_iload_n (ea_at dt_X12_widest 31 rfl) rfl ?_
  refine ev_iadd (ea_at dt_X12_widest 32 rfl) ?_
  refine ev_bipush (ea_at dt_X12_widest 33 rfl) bp_16 ?_
  refine ev_icmp_ge (tgt := 118) (ea_at dt_X12_widest 34 rfl) rfl (fun _ => ?_) (fun _ => ?_)
  · exact ev_leaf (fun h => ea_drop (l' := [some (.ref 272), none, some (.int x6), some (.int x8), some (.int s47.1), none, none, none]) ⟨Or.inr rfl, Or.inl rfl, Or.inr rfl, Or.inr rfl, Or.inr rfl, Or.inl rfl, Or.inl rfl, Or.inl rfl, trivial⟩ (hX (s47.1, s47.2.2.2) h))
  · refine ev_aload_n (ea_at dt_X12_widest 35 rfl) rfl ?_
    refine ev_getR (ea_at dt_X12_widest 36 rfl) fl_X12_13 sh_272 rfl ?_
    refine ev_bipush (ea_at dt_X12_widest 37 rfl) bp_9 ?_
    refine ev_iload (ea_at dt_X12_widest 38 rfl) rfl ?_
    refine ev_iastoreC (j := 9) (ea_at dt_X12_widest 39 rfl) sh_273 (by decide) (by decide) (by decide) (by decide) ?_
    refine ev_m (fun m9 => ?_)
    refine ev_aload_n (ea_at dt_X12_widest 40 rfl) rfl ?_
    refine ev_getR (ea_at dt_X12_widest 41 rfl) fl_X12_13 sh_272 rfl ?_
    refine ev_bipush (ea_at dt_X12_widest 42 rfl) bp_10 ?_
    refine ev_iload (ea_at dt_X12_widest 43 rfl) rfl ?_
    refine ev_iload_n (ea_at dt_X12_widest 44 rfl) rfl ?_
    refine ev_iadd (ea_at dt_X12_widest 45 rfl) ?_
    refine ev_iastoreC (j := 10) (ea_at dt_X12_widest 46 rfl) sh_273 (by decide) (by decide) (by decide) (by decide) ?_
    refine ev_m (fun m10 => ?_)
    refine ev_aload_n (ea_at dt_X12_widest 47 rfl) rfl ?_
    refine ev_iload_n (ea_at dt_X12_widest 48 rfl) rfl ?_
    refine ev_clU (F1 := F_X12_laysWays) (fun rY mY hY => ea_runV (As := [.int p1]) (ea_at dt_X12_widest 49 rfl) ml_X12_347 mv_X12_laysWays (ok_X12_laysWays G p1 m10  rY mY hY) sh_272 rfl rfl rfl (Nat.le_of_ble_eq_true rfl) rfl) rfl (fun r12 m11 => ?_)
    refine ev_aload_n (ea_at dt_X12_widest 50 rfl) rfl ?_
    refine ev_clI (F1 := F_X12_goodAll) (fun rY mY hY => ea_runV (As := []) (ea_at dt_X12_widest 51 rfl) ml_X12_351 mv_X12_goodAll (ok_X12_goodAll G m11  rY mY hY) sh_272 rfl rfl rfl (Nat.le_of_ble_eq_true rfl) rfl) rfl (fun r14 m13 => ?_)
    refine ev_istore (ls' := [some (.ref 272), some (.int p1), some (.int x6), some (.int x8), some (.int s47.1), some (.int s47.2.1), some (.int s47.2.2.1), some (.int r14)]) (ea_at dt_X12_widest 52 rfl) (ea_lt rfl) rfl ?_
    refine ev_iload (ea_at dt_X12_widest 53 rfl) rfl ?_
    refine ev_iload (ea_at dt_X12_widest 54 rfl) rfl ?_
    refine ev_icmp_le (tgt := 99) (ea_at dt_X12_widest 55 rfl) rfl (fun _ => ?_) (fun _ => ?_)
    · refine ev_iload (ea_at dt_X12_widest 58 rfl) rfl ?_
      exact ev_drop (l' := [some (.ref 272), some (.int p1), some (.int x6), some (.int x8), none, some (.int s47.2.1), some (.int s47.2.2.1), some (.int r14)]) ⟨Or.inr rfl, Or.inr rfl, Or.inr rfl, Or.inr rfl, Or.inl rfl, Or.inr rfl, Or.inr rfl, Or.inr rfl, trivial⟩ (jn_X12_widest_101 G p1 x6 x8 s47.2.1 s47.2.2.1 r14 s47.1 m13  hC hX)
    · refine ev_iload (ea_at dt_X12_widest 56 rfl) rfl ?_
      refine ev_goto (tgt := 101) (ea_at dt_X12_widest 57 rfl) rfl ?_
      exact ev_drop (l' := [some (.ref 272), some (.int p1), some (.int x6), some (.int x8), none, some (.int s47.2.1), some (.int s47.2.2.1), some (.int r14)]) ⟨Or.inr rfl, Or.inr rfl, Or.inr rfl, Or.inr rfl, Or.inl rfl, Or.inr rfl, Or.inr rfl, Or.inr rfl, trivial⟩ (jn_X12_widest_101 G p1 x6 x8 s47.2.1 s47.2.2.1 r14 s47.2.2.1 m13  hC hX)
set_option maxHeartbeats 300000 in
theorem ok_X12_widest (G : ea_G) (p1 : Int32) (m : ea_M)  (rZ : Int32) (mZ : ea_M) (hZ : f_X12_widest p1 m = some (rZ, mZ)) : ea_Met G yX12_widest F_X12_widest [.ref 272, .int p1] m (0, rZ, mZ) := by
  refine ea_met (F := F_X12_widest) (by decide +kernel) rfl rfl (Nat.le_of_ble_eq_true rfl) (by simp only [List.mem_cons, List.not_mem_nil, or_false]; intro v hv; rcases hv with rfl | rfl <;> rfl) ((?_ : ea_E G F_X12_widest (0, rZ, mZ) 0 [some (.ref 272), some (.int p1), none, none, none, none, none, none] [] m 0 0 (f_X12_widest p1 m) (fun t => t = (rZ, mZ))) (rZ, mZ) hZ rfl)
  have hR : ∀ t : Int32 × ea_M, t = (rZ, mZ) → ((0, rZ, mZ) : ea_O) = (0, t) := fun t h => by rw [h]
  unfold f_X12_widest
  refine ev_aload_n (ea_at dt_X12_widest 0 rfl) rfl ?_
  refine ev_iconst (ea_at dt_X12_widest 1 rfl) ic_0 ?_
  refine ev_putI (ea_at dt_X12_widest 2 rfl) fl_X12_3 fp_12_0 sh_272 rfl ?_
  refine ev_m (fun m1 => ?_)
  refine ev_aload_n (ea_at dt_X12_widest 3 rfl) rfl ?_
  refine ev_aload_n (ea_at dt_X12_widest 4 rfl) rfl ?_
  refine ev_iload_n (ea_at dt_X12_widest 5 rfl) rfl ?_
  refine ev_clI (F1 := F_X12_noBird) (fun rY mY hY => ea_runV (As := [.int p1]) (ea_at dt_X12_widest 6 rfl) ml_X12_303 mv_X12_noBird (ok_X12_noBird G p1 m1  rY mY hY) sh_272 rfl rfl rfl (Nat.le_of_ble_eq_true rfl) rfl) rfl (fun r3 m2 => ?_)
  refine ev_iconst (ea_at dt_X12_widest 7 rfl) ic_1 ?_
  refine ev_clI (F1 := F_X12_throwsIf) (fun rY mY hY => ea_runV (As := [.int r3, .int 1]) (ea_at dt_X12_widest 8 rfl) ml_X12_265 mv_X12_throwsIf (ok_X12_throwsIf G r3 1 m2  rY mY hY) sh_272 rfl rfl rfl (Nat.le_of_ble_eq_true rfl) rfl) rfl (fun r5 m4 => ?_)
  refine ev_if_eq (tgt := 20) (ea_at dt_X12_widest 9 rfl) rfl (fun _ => ?_) (fun _ => ?_)
  · refine ev_aload_n (ea_at dt_X12_widest 12 rfl) rfl ?_
    refine ev_getR (ea_at dt_X12_widest 13 rfl) fl_X12_13 sh_272 rfl ?_
    refine ev_bipush (ea_at dt_X12_widest 14 rfl) bp_9 ?_
    refine ev_ialoadC (j := 9) (ea_at dt_X12_widest 15 rfl) sh_273 (by decide) (by decide) (by decide) (by decide) ?_
    refine ev_i (fun x6 => ?_)
    refine ev_istore_n (ls' := [some (.ref 272), some (.int p1), some (.int x6), none, none, none, none, none]) (ea_at dt_X12_widest 16 rfl) (ea_lt rfl) rfl ?_
    refine ev_aload_n (ea_at dt_X12_widest 17 rfl) rfl ?_
    refine ev_getR (ea_at dt_X12_widest 18 rfl) fl_X12_13 sh_272 rfl ?_
    refine ev_bipush (ea_at dt_X12_widest 19 rfl) bp_10 ?_
    refine ev_ialoadC (j := 10) (ea_at dt_X12_widest 20 rfl) sh_273 (by decide) (by decide) (by decide) (by decide) ?_
    refine ev_i (fun x7 => ?_)
    refine ev_iload_n (ea_at dt_X12_widest 21 rfl) rfl ?_
    refine ev_isub (ea_at dt_X12_widest 22 rfl) ?_
    refine ev_i (fun x8 => ?_)
    refine ev_istore_n (ls' := [some (.ref 272), some (.int p1), some (.int x6), some (.int x8), none, none, none, none]) (ea_at dt_X12_widest 23 rfl) (ea_lt rfl) rfl ?_
    refine ev_iconst (ea_at dt_X12_widest 24 rfl) ic_0 ?_
    refine ev_istore (ls' := [some (.ref 272), some (.int p1), some (.int x6), some (.int x8), some (.int 0), none, none, none]) (ea_at dt_X12_widest 25 rfl) (ea_lt rfl) rfl ?_
    refine ev_iconst (ea_at dt_X12_widest 26 rfl) ic_m1 ?_
    refine ev_istore (ls' := [some (.ref 272), some (.int p1), some (.int x6), some (.int x8), some (.int 0), some (.int (-1)), none, none]) (ea_at dt_X12_widest 27 rfl) (ea_lt rfl) rfl ?_
    refine ev_iconst (ea_at dt_X12_widest 28 rfl) ic_0 ?_
    refine ev_istore (ls' := [some (.ref 272), some (.int p1), some (.int x6), some (.int x8), some (.int 0), some (.int (-1)), some (.int 0), none]) (ea_at dt_X12_widest 29 rfl) (ea_lt rfl) rfl ?_
    refine ev_drop (l' := [some (.ref 272), some (.int p1), some (.int x6), some (.int x8), some (.int 0), some (.int (-1)), some (.int 0), none]) ⟨Or.inr rfl, Or.inr rfl, Or.inr rfl, Or.inr rfl, Or.inr rfl, Or.inr rfl, Or.inr rfl, Or.inl rfl, trivial⟩ ?_
    refine ev_bind (lp_X12_widest_47 G p1 x6 x8   (fun x47s h => ?_) ea_fuel (0, (-1), 0, m4))
    obtain ⟨t1, e1, q1⟩ := h
    refine (?_ : ea_E G F_X12_widest (0, rZ, mZ) 118 [some (.ref 272), none, some (.int x6), some (.int x8), some (.int x47s.1), none, none, none] [] x47s.2 0 0 _ (fun t => t = (rZ, mZ))) t1 e1 q1
    refine ev_aload_n (ea_at dt_X12_widest 66 rfl) rfl ?_
    refine ev_getR (ea_at dt_X12_widest 67 rfl) fl_X12_13 sh_272 rfl ?_
    refine ev_bipush (ea_at dt_X12_widest 68 rfl) bp_9 ?_
    refine ev_iload_n (ea_at dt_X12_widest 69 rfl) rfl ?_
    refine ev_iastoreC (j := 9) (ea_at dt_X12_widest 70 rfl) sh_273 (by decide) (by decide) (by decide) (by decide) ?_
    refine ev_m (fun m21 => ?_)
    refine ev_aload_n (ea_at dt_X12_widest 71 rfl) rfl ?_
    refine ev_getR (ea_at dt_X12_widest 72 rfl) fl_X12_13 sh_272 rfl ?_
    refine ev_bipush (ea_at dt_X12_widest 73 rfl) bp_10 ?_
    refine ev_iload_n (ea_at dt_X12_widest 74 rfl) rfl ?_
    refine ev_iload_n (ea_at dt_X12_widest 75 rfl) rfl ?_
    refine ev_iadd (ea_at dt_X12_widest 76 rfl) ?_
    refine ev_iastoreC (j := 10) (ea_at dt_X12_widest 77 rfl) sh_273 (by decide) (by decide) (by decide) (by decide) ?_
    refine ev_m (fun m22 => ?_)
    refine ev_iload (ea_at dt_X12_widest 78 rfl) rfl ?_
    exact ev_iret (ea_at dt_X12_widest 79 rfl) rfl ⟨by decide, by decide⟩ (fun h => hR _ h)
  · refine ev_iconst (ea_at dt_X12_widest 10 rfl) ic_0 ?_
    exact ev_iret (ea_at dt_X12_widest 11 rfl) rfl ⟨by decide, by decide⟩ (fun h => hR _ h)
def F_X12_begins : ea_F := (ea_rm 8 0 0, cX12_begins, RX12, none, 3, [], 0, 0)
def D_X12_begins : List (Nat × Instr × Nat) := [(0, .aload_n 0, 1), (1, .getfield 54, 3), (4, .iload_n 1, 1), (5, .iload_n 2, 1), (6, .iastore, 1), (7, .aload_n 0, 1), (8, .getfield 51, 3), (11, .iconst 4, 1), (12, .iload_n 1, 1), (13, .imul, 1), (14, .aload_n 0, 1), (15, .getfield 13, 3), (18, .bipush 8, 2), (20, .iaload, 1), (21, .iastore, 1), (22, .aload_n 0, 1), (23, .getfield 51, 3), (26, .iconst 4, 1), (27, .iload_n 1, 1), (28, .imul, 1), (29, .iconst 1, 1), (30, .iadd, 1), (31, .aload_n 0, 1), (32, .getfield 13, 3), (35, .bipush 7, 2), (37, .iaload, 1), (38, .iastore, 1), (39, .aload_n 0, 1), (40, .getfield 51, 3), (43, .iconst 4, 1), (44, .iload_n 1, 1), (45, .imul, 1), (46, .iconst 2, 1), (47, .iadd, 1), (48, .iconst 1, 1), (49, .iastore, 1), (50, .aload_n 0, 1), (51, .getfield 51, 3), (54, .iconst 4, 1), (55, .iload_n 1, 1), (56, .imul, 1), (57, .iconst 3, 1), (58, .iadd, 1), (59, .iconst 0, 1), (60, .iastore, 1), (61, .return_, 1)]
theorem dt_X12_begins : ∀ q ∈ D_X12_begins, decode cX12_begins q.1 = .ok q.2 := by decide +kernel
theorem mv_X12_begins : ea_MV yX12_begins (F_X12_begins) 2 := ⟨⟨List.mem_append_right _ (List.mem_of_getElem? (i := 13) (by decide +kernel)), List.mem_append_right _ (List.mem_of_getElem? (i := 1803) (by decide +kernel)), ⟨by decide, by decide⟩, by decide +kernel⟩, List.mem_append_right _ (List.mem_of_getElem? (i := 1802) (by decide +kernel)), List.mem_append_left _ (List.mem_of_getElem? (i := 89) (by decide +kernel))⟩
def f_X12_begins (p1 : Int32) (p2 : Int32) (m : ea_M) : Option (Int32 × ea_M) :=
  ea_g p1 2 (ea_bd (ea_st m 285 (Int32.toNatClampNeg p1) p2) fun m1 =>
  ea_bd (m1 273 8) fun x2 =>
  ea_g (4 * p1) 8 (ea_bd (ea_st m1 284 (Int32.toNatClampNeg (4 * p1)) x2) fun m3 =>
  ea_bd ((4 * p1) + 1) fun x4 =>
  ea_bd (m3 273 7) fun x5 =>
  ea_g x4 8 (ea_bd (ea_st m3 284 (Int32.toNatClampNeg x4) x5) fun m6 =>
  ea_bd ((4 * p1) + 2) fun x7 =>
  ea_g x7 8 (ea_bd (ea_st m6 284 (Int32.toNatClampNeg x7) 1) fun m8 =>
  ea_bd ((4 * p1) + 3) fun x9 =>
  ea_g x9 8 (ea_bd (ea_st m8 284 (Int32.toNatClampNeg x9) 0) fun m10 =>
  some (0, m10))))))
set_option maxHeartbeats 300000 in
theorem ok_X12_begins (G : ea_G) (p1 : Int32) (p2 : Int32) (m : ea_M)  (rZ : Int32) (mZ : ea_M) (hZ : f_X12_begins p1 p2 m = some (rZ, mZ)) : ea_Met G yX12_begins F_X12_begins [.ref 272, .int p1, .int p2] m (0, rZ, mZ) := by
  refine ea_met (F := F_X12_begins) (by decide +kernel) rfl rfl (Nat.le_of_ble_eq_true rfl) (by simp only [List.mem_cons, List.not_mem_nil, or_false]; intro v hv; rcases hv with rfl | rfl | rfl <;> rfl) ((?_ : ea_E G F_X12_begins (0, rZ, mZ) 0 [some (.ref 272), some (.int p1), some (.int p2)] [] m 0 0 (f_X12_begins p1 p2 m) (fun t => t = (rZ, mZ))) (rZ, mZ) hZ rfl)
  have hR : ∀ t : Int32 × ea_M, t = (rZ, mZ) → ((0, rZ, mZ) : ea_O) = (0, t) := fun t h => by rw [h]
  unfold f_X12_begins
  refine ev_aload_n (ea_at dt_X12_begins 0 rfl) rfl ?_
  refine ev_getR (ea_at dt_X12_begins 1 rfl) fl_X12_54 sh_272 rfl ?_
  refine ev_iload_n (ea_at dt_X12_begins 2 rfl) rfl ?_
  refine ev_iload_n (ea_at dt_X12_begins 3 rfl) rfl ?_
  refine ev_iastore (ea_at dt_X12_begins 4 rfl) sh_285 (by decide) ?_
  refine ev_m (fun m1 => ?_)
  refine ev_aload_n (ea_at dt_X12_begins 5 rfl) rfl ?_
  refine ev_getR (ea_at dt_X12_begins 6 rfl) fl_X12_51 sh_272 rfl ?_
  refine ev_iconst (ea_at dt_X12_begins 7 rfl) ic_4 ?_
  refine ev_iload_n (ea_at dt_X12_begins 8 rfl) rfl ?_
  refine ev_imul (ea_at dt_X12_begins 9 rfl) ?_
  refine ev_aload_n (ea_at dt_X12_begins 10 rfl) rfl ?_
  refine ev_getR (ea_at dt_X12_begins 11 rfl) fl_X12_13 sh_272 rfl ?_
  refine ev_bipush (ea_at dt_X12_begins 12 rfl) bp_8 ?_
  refine ev_ialoadC (j := 8) (ea_at dt_X12_begins 13 rfl) sh_273 (by decide) (by decide) (by decide) (by decide) ?_
  refine ev_i (fun x2 => ?_)
  refine ev_iastore (ea_at dt_X12_begins 14 rfl) sh_284 (by decide) ?_
  refine ev_m (fun m3 => ?_)
  refine ev_aload_n (ea_at dt_X12_begins 15 rfl) rfl ?_
  refine ev_getR (ea_at dt_X12_begins 16 rfl) fl_X12_51 sh_272 rfl ?_
  refine ev_iconst (ea_at dt_X12_begins 17 rfl) ic_4 ?_
  refine ev_iload_n (ea_at dt_X12_begins 18 rfl) rfl ?_
  refine ev_imul (ea_at dt_X12_begins 19 rfl) ?_
  refine ev_iconst (ea_at dt_X12_begins 20 rfl) ic_1 ?_
  refine ev_iadd (ea_at dt_X12_begins 21 rfl) ?_
  refine ev_i (fun x4 => ?_)
  refine ev_aload_n (ea_at dt_X12_begins 22 rfl) rfl ?_
  refine ev_getR (ea_at dt_X12_begins 23 rfl) fl_X12_13 sh_272 rfl ?_
  refine ev_bipush (ea_at dt_X12_begins 24 rfl) bp_7 ?_
  refine ev_ialoadC (j := 7) (ea_at dt_X12_begins 25 rfl) sh_273 (by decide) (by decide) (by decide) (by decide) ?_
  refine ev_i (fun x5 => ?_)
  refine ev_iastore (ea_at dt_X12_begins 26 rfl) sh_284 (by decide) ?_
  refine ev_m (fun m6 => ?_)
  refine ev_aload_n (ea_at dt_X12_begins 27 rfl) rfl ?_
  refine ev_getR (ea_at dt_X12_begins 28 rfl) fl_X12_51 sh_272 rfl ?_
  refine ev_iconst (ea_at dt_X12_begins 29 rfl) ic_4 ?_
  refine ev_iload_n (ea_at dt_X12_begins 30 rfl) rfl ?_
  refine ev_imul (ea_at dt_X12_begins 31 rfl) ?_
  refine ev_iconst (ea_at dt_X12_begins 32 rfl) ic_2 ?_
  refine ev_iadd (ea_at dt_X12_begins 33 rfl) ?_
  refine ev_i (fun x7 => ?_)
  refine ev_iconst (ea_at dt_X12_begins 34 rfl) ic_1 ?_
  refine ev_iastore (ea_at dt_X12_begins 35 rfl) sh_284 (by decide) ?_
  refine ev_m (fun m8 => ?_)
  refine ev_aload_n (ea_at dt_X12_begins 36 rfl) rfl ?_
  refine ev_getR (ea_at dt_X12_begins 37 rfl) fl_X12_51 sh_272 rfl ?_
  refine ev_iconst (ea_at dt_X12_begins 38 rfl) ic_4 ?_
  refine ev_iload_n (ea_at dt_X12_begins 39 rfl) rfl ?_
  refine ev_imul (ea_at dt_X12_begins 40 rfl) ?_
  refine ev_iconst (ea_at dt_X12_begins 41 rfl) ic_3 ?_
  refine ev_iadd (ea_at dt_X12_begins 42 rfl) ?_
  refine ev_i (fun x9 => ?_)
  refine ev_iconst (ea_at dt_X12_begins 43 rfl) ic_0 ?_
  refine ev_iastore (ea_at dt_X12_begins 44 rfl) sh_284 (by decide) ?_
  refine ev_m (fun m10 => ?_)
  exact ev_vret (ea_at dt_X12_begins 45 rfl) rfl ⟨by decide, by decide⟩ (fun h => ⟨0, hR _ h⟩)
def F_X12_isFlying : ea_F := (ea_rm 8 0 0, cX12_isFlying, RX12, some .boolean, 2, [], 0, 0)
def D_X12_isFlying : List (Nat × Instr × Nat) := [(0, .aload_n 0, 1), (1, .getfield 51, 3), (4, .iconst 4, 1), (5, .iload_n 1, 1), (6, .imul, 1), (7, .iconst 2, 1), (8, .iadd, 1), (9, .iaload, 1), (10, .iconst 1, 1), (11, .if_icmp .ne 7, 3), (14, .iconst 1, 1), (15, .goto 4, 3), (18, .iconst 0, 1), (19, .ireturn, 1)]
theorem dt_X12_isFlying : ∀ q ∈ D_X12_isFlying, decode cX12_isFlying q.1 = .ok q.2 := by decide +kernel
theorem mv_X12_isFlying : ea_MV yX12_isFlying (F_X12_isFlying) 1 := ⟨⟨List.mem_append_right _ (List.mem_of_getElem? (i := 13) (by decide +kernel)), List.mem_append_right _ (List.mem_of_getElem? (i := 1807) (by decide +kernel)), ⟨by decide, by decide⟩, by decide +kernel⟩, List.mem_append_right _ (List.mem_of_getElem? (i := 1806) (by decide +kernel)), List.mem_append_left _ (List.mem_of_getElem? (i := 90) (by decide +kernel))⟩
def f_X12_isFlying (p1 : Int32) (m : ea_M) : Option (Int32 × ea_M) :=
  ea_bd ((4 * p1) + 2) fun x1 =>
  ea_g x1 8 (ea_bd (m 284 (Int32.toNatClampNeg x1)) fun x2 =>
  if x2 = 1 then
  some (1, m)
  else
  some (0, m))
set_option maxHeartbeats 300000 in
theorem ok_X12_isFlying (G : ea_G) (p1 : Int32) (m : ea_M)  (rZ : Int32) (mZ : ea_M) (hZ : f_X12_isFlying p1 m = some (rZ, mZ)) : ea_Met G yX12_isFlying F_X12_isFlying [.ref 272, .int p1] m (0, rZ, mZ) := by
  refine ea_met (F := F_X12_isFlying) (by decide +kernel) rfl rfl (Nat.le_of_ble_eq_true rfl) (by simp only [List.mem_cons, List.not_mem_nil, or_false]; intro v hv; rcases hv with rfl | rfl <;> rfl) ((?_ : ea_E G F_X12_isFlying (0, rZ, mZ) 0 [some (.ref 272), some (.int p1)] [] m 0 0 (f_X12_isFlying p1 m) (fun t => t = (rZ, mZ))) (rZ, mZ) hZ rfl)
  have hR : ∀ t : Int32 × ea_M, t = (rZ, mZ) → ((0, rZ, mZ) : ea_O) = (0, t) := fun t h => by rw [h]
  unfold f_X12_isFlying
  refine ev_aload_n (ea_at dt_X12_isFlying 0 rfl) rfl ?_
  refine ev_getR (ea_at dt_X12_isFlying 1 rfl) fl_X12_51 sh_272 rfl ?_
  refine ev_iconst (ea_at dt_X12_isFlying 2 rfl) ic_4 ?_
  refine ev_iload_n (ea_at dt_X12_isFlying 3 rfl) rfl ?_
  refine ev_imul (ea_at dt_X12_isFlying 4 rfl) ?_
  refine ev_iconst (ea_at dt_X12_isFlying 5 rfl) ic_2 ?_
  refine ev_iadd (ea_at dt_X12_isFlying 6 rfl) ?_
  refine ev_i (fun x1 => ?_)
  refine ev_iaload (ea_at dt_X12_isFlying 7 rfl) sh_284 (by decide) ?_
  refine ev_i (fun x2 => ?_)
  refine ev_iconst (ea_at dt_X12_isFlying 8 rfl) ic_1 ?_
  refine ev_icmp_ne (tgt := 18) (ea_at dt_X12_isFlying 9 rfl) rfl (fun _ => ?_) (fun _ => ?_)
  · refine ev_iconst (ea_at dt_X12_isFlying 10 rfl) ic_1 ?_
    refine ev_goto (tgt := 19) (ea_at dt_X12_isFlying 11 rfl) rfl ?_
    exact ev_zret (by decide) (ea_at dt_X12_isFlying 13 rfl) rfl ⟨by decide, by decide⟩ (fun h => hR _ h)
  · refine ev_iconst (ea_at dt_X12_isFlying 12 rfl) ic_0 ?_
    exact ev_zret (by decide) (ea_at dt_X12_isFlying 13 rfl) rfl ⟨by decide, by decide⟩ (fun h => hR _ h)
def F_X12_goodIn : ea_F := (ea_rm 8 0 0, cX12_goodIn, RX12, some .int, 2, [], 0, 0)
def D_X12_goodIn : List (Nat × Instr × Nat) := [(0, .aload_n 0, 1), (1, .getfield 51, 3), (4, .iconst 4, 1), (5, .iload_n 1, 1), (6, .imul, 1), (7, .iconst 3, 1), (8, .iadd, 1), (9, .iaload, 1), (10, .ireturn, 1)]
theorem dt_X12_goodIn : ∀ q ∈ D_X12_goodIn, decode cX12_goodIn q.1 = .ok q.2 := by decide +kernel
theorem mv_X12_goodIn : ea_MV yX12_goodIn (F_X12_goodIn) 1 := ⟨⟨List.mem_append_right _ (List.mem_of_getElem? (i := 13) (by decide +kernel)), List.mem_append_right _ (List.mem_of_getElem? (i := 1937) (by decide +kernel)), ⟨by decide, by decide⟩, by decide +kernel⟩, List.mem_append_right _ (List.mem_of_getElem? (i := 1936) (by decide +kernel)), List.mem_append_left _ (List.mem_of_getElem? (i := 109) (by decide +kernel))⟩
def f_X12_goodIn (p1 : Int32) (m : ea_M) : Option (Int32 × ea_M) :=
  ea_bd ((4 * p1) + 3) fun x1 =>
  ea_g x1 8 (ea_bd (m 284 (Int32.toNatClampNeg x1)) fun x2 =>
  some (x2, m))
set_option maxHeartbeats 300000 in
theorem ok_X12_goodIn (G : ea_G) (p1 : Int32) (m : ea_M)  (rZ : Int32) (mZ : ea_M) (hZ : f_X12_goodIn p1 m = some (rZ, mZ)) : ea_Met G yX12_goodIn F_X12_goodIn [.ref 272, .int p1] m (0, rZ, mZ) := by
  refine ea_met (F := F_X12_goodIn) (by decide +kernel) rfl rfl (Nat.le_of_ble_eq_true rfl) (by simp only [List.mem_cons, List.not_mem_nil, or_false]; intro v hv; rcases hv with rfl | rfl <;> rfl) ((?_ : ea_E G F_X12_goodIn (0, rZ, mZ) 0 [some (.ref 272), some (.int p1)] [] m 0 0 (f_X12_goodIn p1 m) (fun t => t = (rZ, mZ))) (rZ, mZ) hZ rfl)
  have hR : ∀ t : Int32 × ea_M, t = (rZ, mZ) → ((0, rZ, mZ) : ea_O) = (0, t) := fun t h => by rw [h]
  unfold f_X12_goodIn
  refine ev_aload_n (ea_at dt_X12_goodIn 0 rfl) rfl ?_
  refine ev_getR (ea_at dt_X12_goodIn 1 rfl) fl_X12_51 sh_272 rfl ?_
  refine ev_iconst (ea_at dt_X12_goodIn 2 rfl) ic_4 ?_
  refine ev_iload_n (ea_at dt_X12_goodIn 3 rfl) rfl ?_
  refine ev_imul (ea_at dt_X12_goodIn 4 rfl) ?_
  refine ev_iconst (ea_at dt_X12_goodIn 5 rfl) ic_3 ?_
  refine ev_iadd (ea_at dt_X12_goodIn 6 rfl) ?_
  refine ev_i (fun x1 => ?_)
  refine ev_iaload (ea_at dt_X12_goodIn 7 rfl) sh_284 (by decide) ?_
  refine ev_i (fun x2 => ?_)
  exact ev_iret (ea_at dt_X12_goodIn 8 rfl) rfl ⟨by decide, by decide⟩ (fun h => hR _ h)
def F_X12_breathes : ea_F := (ea_rm 14 0 0, cX12_breathes, RX12, none, 6, [], 0, 0)
def D_X12_breathes : List (Nat × Instr × Nat) := [(0, .aload_n 0, 1), (1, .aload_n 0, 1), (2, .getfield 54, 3), (5, .iload_n 1, 1), (6, .iaload, 1), (7, .aload_n 0, 1), (8, .getfield 51, 3), (11, .iconst 4, 1), (12, .iload_n 1, 1), (13, .imul, 1), (14, .iaload, 1), (15, .aload_n 0, 1), (16, .getfield 51, 3), (19, .iconst 4, 1), (20, .iload_n 1, 1), (21, .imul, 1), (22, .iconst 1, 1), (23, .iadd, 1), (24, .iaload, 1), (25, .iload_n 3, 1), (26, .invokevirtual 312, 3), (29, .aload_n 0, 1), (30, .getfield 271, 3), (33, .aload_n 0, 1), (34, .invokevirtual 319, 3), (37, .isub, 1), (38, .istore 4, 2), (40, .aload_n 0, 1), (41, .getfield 274, 3), (44, .aload_n 0, 1), (45, .invokevirtual 316, 3), (48, .iadd, 1), (49, .aload_n 0, 1), (50, .aload_n 0, 1), (51, .getfield 268, 3), (54, .iload_n 2, 1), (55, .invokevirtual 325, 3), (58, .iadd, 1), (59, .istore 5, 2), (61, .aload_n 0, 1), (62, .getfield 51, 3), (65, .iconst 4, 1), (66, .iload_n 1, 1), (67, .imul, 1), (68, .iload 4, 2), (70, .iastore, 1), (71, .aload_n 0, 1), (72, .getfield 51, 3), (75, .iconst 4, 1), (76, .iload_n 1, 1), (77, .imul, 1), (78, .iconst 1, 1), (79, .iadd, 1), (80, .iload 5, 2), (82, .iastore, 1), (83, .iload 5, 2), (85, .invokestatic 309, 3), (88, .ifCond .ne 9, 3), (91, .iload 4, 2), (93, .ifCond .le 4, 3), (96, .return_, 1), (97, .aload_n 0, 1), (98, .getfield 51, 3), (101, .iconst 4, 1), (102, .iload_n 1, 1), (103, .imul, 1), (104, .iconst 2, 1), (105, .iadd, 1), (106, .iconst 0, 1), (107, .iastore, 1), (108, .aload_n 0, 1), (109, .getfield 51, 3), (112, .iconst 4, 1), (113, .iload_n 1, 1), (114, .imul, 1), (115, .iconst 3, 1), (116, .iadd, 1), (117, .iload 5, 2), (119, .invokestatic 309, 3), (122, .ifCond .ne 18, 3), (125, .aload_n 0, 1), (126, .iload 5, 2), (128, .invokevirtual 283, 3), (131, .ifCond .eq 9, 3), (134, .iload_n 3, 1), (135, .iconst 1, 1), (136, .iadd, 1), (137, .goto 4, 3), (140, .iconst 0, 1), (141, .iastore, 1), (142, .return_, 1)]
theorem dt_X12_breathes : ∀ q ∈ D_X12_breathes, decode cX12_breathes q.1 = .ok q.2 := by decide +kernel
theorem mv_X12_breathes : ea_MV yX12_breathes (F_X12_breathes) 3 := ⟨⟨List.mem_append_right _ (List.mem_of_getElem? (i := 13) (by decide +kernel)), List.mem_append_right _ (List.mem_of_getElem? (i := 1811) (by decide +kernel)), ⟨by decide, by decide⟩, by decide +kernel⟩, List.mem_append_right _ (List.mem_of_getElem? (i := 1810) (by decide +kernel)), List.mem_append_left _ (List.mem_of_getElem? (i := 91) (by decide +kernel))⟩
def f_X12_breathes_j141 (x34 : Int32) (x35 : Int32) (m36 : ea_M) : Option (Int32 × ea_M) :=
  ea_g x34 8 (ea_bd (ea_st m36 284 (Int32.toNatClampNeg x34) x35) fun m37 =>
  some (0, m37))
def f_X12_breathes_j140 (x32 : Int32) (m33 : ea_M) : Option (Int32 × ea_M) :=
  f_X12_breathes_j141 x32 0 m33
def f_X12_breathes_j97 (p1 : Int32) (p3 : Int32) (x23 : Int32) (m24 : ea_M) : Option (Int32 × ea_M) :=
  ea_bd ((4 * p1) + 2) fun x25 =>
  ea_g x25 8 (ea_bd (ea_st m24 284 (Int32.toNatClampNeg x25) 0) fun m26 =>
  ea_bd ((4 * p1) + 3) fun x27 =>
  ea_cl (f_X12_noColumn x23 m26) fun r29 m28 =>
  if r29 = 0 then
  ea_cl (f_X12_isOver x23 m28) fun r31 m30 =>
  if r31 = 0 then
  f_X12_breathes_j140 x27 m30
  else
  f_X12_breathes_j141 x27 (p3 + 1) m30
  else
  f_X12_breathes_j140 x27 m28)
def f_X12_breathes (p1 : Int32) (p2 : Int32) (p3 : Int32) (m : ea_M) : Option (Int32 × ea_M) :=
  ea_g p1 2 (ea_bd (m 285 (Int32.toNatClampNeg p1)) fun x1 =>
  ea_g (4 * p1) 8 (ea_bd (m 284 (Int32.toNatClampNeg (4 * p1))) fun x2 =>
  ea_bd ((4 * p1) + 1) fun x3 =>
  ea_g x3 8 (ea_bd (m 284 (Int32.toNatClampNeg x3)) fun x4 =>
  ea_cl (f_X12_looks x1 x2 x4 p3 m) fun r6 m5 =>
  ea_bd (m5 272 19) fun x7 =>
  ea_cl (f_X12_sinks m5) fun r9 m8 =>
  ea_bd (x7 - r9) fun x10 =>
  ea_bd (m8 272 20) fun x11 =>
  ea_cl (f_X12_carries m8) fun r13 m12 =>
  ea_bd (m12 272 18) fun x14 =>
  ea_cl (f_X12_driftOf x14 p2 m12) fun r16 m15 =>
  ea_bd ((x11 + r13) + r16) fun x17 =>
  ea_g (4 * p1) 8 (ea_bd (ea_st m15 284 (Int32.toNatClampNeg (4 * p1)) x10) fun m18 =>
  ea_bd ((4 * p1) + 1) fun x19 =>
  ea_g x19 8 (ea_bd (ea_st m18 284 (Int32.toNatClampNeg x19) x17) fun m20 =>
  ea_cl (f_X12_noColumn x17 m20) fun r22 m21 =>
  if r22 = 0 then
  if x10 ≤ 0 then
  f_X12_breathes_j97 p1 p3 x17 m21
  else
  some (0, m21)
  else
  f_X12_breathes_j97 p1 p3 x17 m21)))))
set_option maxHeartbeats 300000 in
theorem jn_X12_breathes_141 (G : ea_G) {res : ea_O}  (x34 : Int32) (x35 : Int32) (m36 : ea_M)  {Φ : (Int32 × ea_M) → Prop} (hR : ∀ t : Int32 × ea_M, Φ t → res = (0, t)) : ea_E G F_X12_breathes res 141 [none, none, none, none, none, none] [.int x35, .int x34, .ref 284] m36 0 0 (f_X12_breathes_j141 x34 x35 m36) Φ := by
  unfold f_X12_breathes_j141
  refine ev_iastore (ea_at dt_X12_breathes 89 rfl) sh_284 (by decide) ?_
  refine ev_m (fun m37 => ?_)
  exact ev_vret (ea_at dt_X12_breathes 90 rfl) rfl ⟨by decide, by decide⟩ (fun h => ⟨0, hR _ h⟩)
set_option maxHeartbeats 300000 in
theorem jn_X12_breathes_140 (G : ea_G) {res : ea_O}  (x32 : Int32) (m33 : ea_M)  {Φ : (Int32 × ea_M) → Prop} (hR : ∀ t : Int32 × ea_M, Φ t → res = (0, t)) : ea_E G F_X12_breathes res 140 [none, none, none, none, none, none] [.int x32, .ref 284] m33 0 0 (f_X12_breathes_j140 x32 m33) Φ := by
  unfold f_X12_breathes_j140
  refine ev_iconst (ea_at dt_X12_breathes 88 rfl) ic_0 ?_
  exact ev_drop (l' := [none, none, none, none, none, none]) ⟨Or.inl rfl, Or.inl rfl, Or.inl rfl, Or.inl rfl, Or.inl rfl, Or.inl rfl, trivial⟩ (jn_X12_breathes_141 G x32 0 m33  hR)
set_option maxHeartbeats 300000 in
theorem jn_X12_breathes_97 (G : ea_G) {res : ea_O}  (p1 : Int32) (p3 : Int32) (x23 : Int32) (m24 : ea_M)  {Φ : (Int32 × ea_M) → Prop} (hR : ∀ t : Int32 × ea_M, Φ t → res = (0, t)) : ea_E G F_X12_breathes res 97 [some (.ref 272), some (.int p1), none, some (.int p3), none, some (.int x23)] [] m24 0 0 (f_X12_breathes_j97 p1 p3 x23 m24) Φ := by
  unfold f_X12_breathes_j97
  refine ev_aload_n (ea_at dt_X12_breathes 61 rfl) rfl ?_
  refine ev_getR (ea_at dt_X12_breathes 62 rfl) fl_X12_51 sh_272 rfl ?_
  refine ev_iconst (ea_at dt_X12_breathes 63 rfl) ic_4 ?_
  refine ev_iload_n (ea_at dt_X12_breathes 64 rfl) rfl ?_
  refine ev_imul (ea_at dt_X12_breathes 65 rfl) ?_
  refine ev_iconst (ea_at dt_X12_breathes 66 rfl) ic_2 ?_
  refine ev_iadd (ea_at dt_X12_breathes 67 rfl) ?_
  refine ev_i (fun x25 => ?_)
  refine ev_iconst (ea_at dt_X12_breathes 68 rfl) ic_0 ?_
  refine ev_iastore (ea_at dt_X12_breathes 69 rfl) sh_284 (by decide) ?_
  refine ev_m (fun m26 => ?_)
  refine ev_aload_n (ea_at dt_X12_breathes 70 rfl) rfl ?_
  refine ev_getR (ea_at dt_X12_breathes 71 rfl) fl_X12_51 sh_272 rfl ?_
  refine ev_iconst (ea_at dt_X12_breathes 72 rfl) ic_4 ?_
  refine ev_iload_n (ea_at dt_X12_breathes 73 rfl) rfl ?_
  refine ev_imul (ea_at dt_X12_breathes 74 rfl) ?_
  refine ev_iconst (ea_at dt_X12_breathes 75 rfl) ic_3 ?_
  refine ev_iadd (ea_at dt_X12_breathes 76 rfl) ?_
  refine ev_i (fun x27 => ?_)
  refine ev_iload (ea_at dt_X12_breathes 77 rfl) rfl ?_
  refine ev_clI (F1 := F_X12_noColumn) (fun rY mY hY => ea_runS (As := [.int x23]) (ea_at dt_X12_breathes 78 rfl) ml_X12_309 mv_X12_noColumn (ok_X12_noColumn G x23 m26  rY mY hY) rfl rfl (Nat.le_of_ble_eq_true rfl) rfl) rfl (fun r29 m28 => ?_)
  refine ev_if_ne (tgt := 140) (ea_at dt_X12_breathes 79 rfl) rfl (fun _ => ?_) (fun _ => ?_)
  · refine ev_aload_n (ea_at dt_X12_breathes 80 rfl) rfl ?_
    refine ev_iload (ea_at dt_X12_breathes 81 rfl) rfl ?_
    refine ev_clI (F1 := F_X12_isOver) (fun rY mY hY => ea_runV (As := [.int x23]) (ea_at dt_X12_breathes 82 rfl) ml_X12_283 mv_X12_isOver (ok_X12_isOver G x23 m28  rY mY hY) sh_272 rfl rfl rfl (Nat.le_of_ble_eq_true rfl) rfl) rfl (fun r31 m30 => ?_)
    refine ev_if_eq (tgt := 140) (ea_at dt_X12_breathes 83 rfl) rfl (fun _ => ?_) (fun _ => ?_)
    · exact ev_drop (l' := [none, none, none, none, none, none]) ⟨Or.inl rfl, Or.inl rfl, Or.inl rfl, Or.inl rfl, Or.inl rfl, Or.inl rfl, trivial⟩ (jn_X12_breathes_140 G x27 m30  hR)
    · refine ev_iload_n (ea_at dt_X12_breathes 84 rfl) rfl ?_
      refine ev_iconst (ea_at dt_X12_breathes 85 rfl) ic_1 ?_
      refine ev_iadd (ea_at dt_X12_breathes 86 rfl) ?_
      refine ev_goto (tgt := 141) (ea_at dt_X12_breathes 87 rfl) rfl ?_
      exact ev_drop (l' := [none, none, none, none, none, none]) ⟨Or.inl rfl, Or.inl rfl, Or.inl rfl, Or.inl rfl, Or.inl rfl, Or.inl rfl, trivial⟩ (jn_X12_breathes_141 G x27 (p3 + 1) m30  hR)
  · exact ev_drop (l' := [none, none, none, none, none, none]) ⟨Or.inl rfl, Or.inl rfl, Or.inl rfl, Or.inl rfl, Or.inl rfl, Or.inl rfl, trivial⟩ (jn_X12_breathes_140 G x27 m28  hR)
set_option maxHeartbeats 300000 in
theorem ok_X12_breathes (G : ea_G) (p1 : Int32) (p2 : Int32) (p3 : Int32) (m : ea_M)  (rZ : Int32) (mZ : ea_M) (hZ : f_X12_breathes p1 p2 p3 m = some (rZ, mZ)) : ea_Met G yX12_breathes F_X12_breathes [.ref 272, .int p1, .int p2, .int p3] m (0, rZ, mZ) := by
  refine ea_met (F := F_X12_breathes) (by decide +kernel) rfl rfl (Nat.le_of_ble_eq_true rfl) (by simp only [List.mem_cons, List.not_mem_nil, or_false]; intro v hv; rcases hv with rfl | rfl | rfl | rfl <;> rfl) ((?_ : ea_E G F_X12_breathes (0, rZ, mZ) 0 [some (.ref 272), some (.int p1), some (.int p2), some (.int p3), none, none] [] m 0 0 (f_X12_breathes p1 p2 p3 m) (fun t => t = (rZ, mZ))) (rZ, mZ) hZ rfl)
  have hR : ∀ t : Int32 × ea_M, t = (rZ, mZ) → ((0, rZ, mZ) : ea_O) = (0, t) := fun t h => by rw [h]
  unfold f_X12_breathes
  refine ev_aload_n (ea_at dt_X12_breathes 0 rfl) rfl ?_
  refine ev_aload_n (ea_at dt_X12_breathes 1 rfl) rfl ?_
  refine ev_getR (ea_at dt_X12_breathes 2 rfl) fl_X12_54 sh_272 rfl ?_
  refine ev_iload_n (ea_at dt_X12_breathes 3 rfl) rfl ?_
  refine ev_iaload (ea_at dt_X12_breathes 4 rfl) sh_285 (by decide) ?_
  refine ev_i (fun x1 => ?_)
  refine ev_aload_n (ea_at dt_X12_breathes 5 rfl) rfl ?_
  refine ev_getR (ea_at dt_X12_breathes 6 rfl) fl_X12_51 sh_272 rfl ?_
  refine ev_iconst (ea_at dt_X12_breathes 7 rfl) ic_4 ?_
  refine ev_iload_n (ea_at dt_X12_breathes 8 rfl) rfl ?_
  refine ev_imul (ea_at dt_X12_breathes 9 rfl) ?_
  refine ev_iaload (ea_at dt_X12_breathes 10 rfl) sh_284 (by decide) ?_
  refine ev_i (fun x2 => ?_)
  refine ev_aload_n (ea_at dt_X12_breathes 11 rfl) rfl ?_
  refine ev_getR (ea_at dt_X12_breathes 12 rfl) fl_X12_51 sh_272 rfl ?_
  refine ev_iconst (ea_at dt_X12_breathes 13 rfl) ic_4 ?_
  refine ev_iload_n (ea_at dt_X12_breathes 14 rfl) rfl ?_
  refine ev_imul (ea_at dt_X12_breathes 15 rfl) ?_
  refine ev_iconst (ea_at dt_X12_breathes 16 rfl) ic_1 ?_
  refine ev_iadd (ea_at dt_X12_breathes 17 rfl) ?_
  refine ev_i (fun x3 => ?_)
  refine ev_iaload (ea_at dt_X12_breathes 18 rfl) sh_284 (by decide) ?_
  refine ev_i (fun x4 => ?_)
  refine ev_iload_n (ea_at dt_X12_breathes 19 rfl) rfl ?_
  refine ev_clU (F1 := F_X12_looks) (fun rY mY hY => ea_runV (As := [.int x1, .int x2, .int x4, .int p3]) (ea_at dt_X12_breathes 20 rfl) ml_X12_312 mv_X12_looks (ok_X12_looks G x1 x2 x4 p3 m  rY mY hY) sh_272 rfl rfl rfl (Nat.le_of_ble_eq_true rfl) rfl) rfl (fun r6 m5 => ?_)
  refine ev_aload_n (ea_at dt_X12_breathes 21 rfl) rfl ?_
  refine ev_getI (ea_at dt_X12_breathes 22 rfl) fl_X12_271 sh_272 rfl ?_
  refine ev_i (fun x7 => ?_)
  refine ev_aload_n (ea_at dt_X12_breathes 23 rfl) rfl ?_
  refine ev_clI (F1 := F_X12_sinks) (fun rY mY hY => ea_runV (As := []) (ea_at dt_X12_breathes 24 rfl) ml_X12_319 mv_X12_sinks (ok_X12_sinks G m5  rY mY hY) sh_272 rfl rfl rfl (Nat.le_of_ble_eq_true rfl) rfl) rfl (fun r9 m8 => ?_)
  refine ev_isub (ea_at dt_X12_breathes 25 rfl) ?_
  refine ev_i (fun x10 => ?_)
  refine ev_istore (ls' := [some (.ref 272), some (.int p1), some (.int p2), some (.int p3), some (.int x10), none]) (ea_at dt_X12_breathes 26 rfl) (ea_lt rfl) rfl ?_
  refine ev_aload_n (ea_at dt_X12_breathes 27 rfl) rfl ?_
  refine ev_getI (ea_at dt_X12_breathes 28 rfl) fl_X12_274 sh_272 rfl ?_
  refine ev_i (fun x11 => ?_)
  refine ev_aload_n (ea_at dt_X12_breathes 29 rfl) rfl ?_
  refine ev_clI (F1 := F_X12_carries) (fun rY mY hY => ea_runV (As := []) (ea_at dt_X12_breathes 30 rfl) ml_X12_316 mv_X12_carries (ok_X12_carries G m8  rY mY hY) sh_272 rfl rfl rfl (Nat.le_of_ble_eq_true rfl) rfl) rfl (fun r13 m12 => ?_)
  refine ev_iadd (ea_at dt_X12_breathes 31 rfl) ?_
  refine ev_aload_n (ea_at dt_X12_breathes 32 rfl) rfl ?_
  refine ev_aload_n (ea_at dt_X12_breathes 33 rfl) rfl ?_
  refine ev_getI (ea_at dt_X12_breathes 34 rfl) fl_X12_268 sh_272 rfl ?_
  refine ev_i (fun x14 => ?_)
  refine ev_iload_n (ea_at dt_X12_breathes 35 rfl) rfl ?_
  refine ev_clI (F1 := F_X12_driftOf) (fun rY mY hY => ea_runV (As := [.int x14, .int p2]) (ea_at dt_X12_breathes 36 rfl) ml_X12_325 mv_X12_driftOf (ok_X12_driftOf G x14 p2 m12  rY mY hY) sh_272 rfl rfl rfl (Nat.le_of_ble_eq_true rfl) rfl) rfl (fun r16 m15 => ?_)
  refine ev_iadd (ea_at dt_X12_breathes 37 rfl) ?_
  refine ev_i (fun x17 => ?_)
  refine ev_istore (ls' := [some (.ref 272), some (.int p1), some (.int p2), some (.int p3), some (.int x10), some (.int x17)]) (ea_at dt_X12_breathes 38 rfl) (ea_lt rfl) rfl ?_
  refine ev_aload_n (ea_at dt_X12_breathes 39 rfl) rfl ?_
  refine ev_getR (ea_at dt_X12_breathes 40 rfl) fl_X12_51 sh_272 rfl ?_
  refine ev_iconst (ea_at dt_X12_breathes 41 rfl) ic_4 ?_
  refine ev_iload_n (ea_at dt_X12_breathes 42 rfl) rfl ?_
  refine ev_imul (ea_at dt_X12_breathes 43 rfl) ?_
  refine ev_iload (ea_at dt_X12_breathes 44 rfl) rfl ?_
  refine ev_iastore (ea_at dt_X12_breathes 45 rfl) sh_284 (by decide) ?_
  refine ev_m (fun m18 => ?_)
  refine ev_aload_n (ea_at dt_X12_breathes 46 rfl) rfl ?_
  refine ev_getR (ea_at dt_X12_breathes 47 rfl) fl_X12_51 sh_272 rfl ?_
  refine ev_iconst (ea_at dt_X12_breathes 48 rfl) ic_4 ?_
  refine ev_iload_n (ea_at dt_X12_breathes 49 rfl) rfl ?_
  refine ev_imul (ea_at dt_X12_breathes 50 rfl) ?_
  refine ev_iconst (ea_at dt_X12_breathes 51 rfl) ic_1 ?_
  refine ev_iadd (ea_at dt_X12_breathes 52 rfl) ?_
  refine ev_i (fun x19 => ?_)
  refine ev_iload (ea_at dt_X12_breathes 53 rfl) rfl ?_
  refine ev_iastore (ea_at dt_X12_breathes 54 rfl) sh_284 (by decide) ?_
  refine ev_m (fun m20 => ?_)
  refine ev_iload (ea_at dt_X12_breathes 55 rfl) rfl ?_
  refine ev_clI (F1 := F_X12_noColumn) (fun rY mY hY => ea_runS (As := [.int x17]) (ea_at dt_X12_breathes 56 rfl) ml_X12_309 mv_X12_noColumn (ok_X12_noColumn G x17 m20  rY mY hY) rfl rfl (Nat.le_of_ble_eq_true rfl) rfl) rfl (fun r22 m21 => ?_)
  refine ev_if_ne (tgt := 97) (ea_at dt_X12_breathes 57 rfl) rfl (fun _ => ?_) (fun _ => ?_)
  · refine ev_iload (ea_at dt_X12_breathes 58 rfl) rfl ?_
    refine ev_if_le (tgt := 97) (ea_at dt_X12_breathes 59 rfl) rfl (fun _ => ?_) (fun _ => ?_)
    · exact ev_drop (l' := [some (.ref 272), some (.int p1), none, some (.int p3), none, some (.int x17)]) ⟨Or.inr rfl, Or.inr rfl, Or.inl rfl, Or.inr rfl, Or.inl rfl, Or.inr rfl, trivial⟩ (jn_X12_breathes_97 G p1 p3 x17 m21  hR)
    · exact ev_vret (ea_at dt_X12_breathes 60 rfl) rfl ⟨by decide, by decide⟩ (fun h => ⟨0, hR _ h⟩)
  · exact ev_drop (l' := [some (.ref 272), some (.int p1), none, some (.int p3), none, some (.int x17)]) ⟨Or.inr rfl, Or.inr rfl, Or.inl rfl, Or.inr rfl, Or.inl rfl, Or.inr rfl, trivial⟩ (jn_X12_breathes_97 G p1 p3 x17 m21  hR)
def F_X12_straight : ea_F := (ea_rm 15 0 0, cX12_straight, RX12, some .int, 4, [], 0, 0)
def D_X12_straight : List (Nat × Instr × Nat) := [(0, .aload_n 0, 1), (1, .iconst 0, 1), (2, .putfield 3, 3), (5, .aload_n 0, 1), (6, .aload_n 0, 1), (7, .iload_n 1, 1), (8, .invokevirtual 303, 3), (11, .iconst 1, 1), (12, .invokevirtual 265, 3), (15, .ifCond .eq 5, 3), (18, .iconst 0, 1), (19, .ireturn, 1), (20, .aload_n 0, 1), (21, .iconst 0, 1), (22, .iload_n 1, 1), (23, .invokevirtual 354, 3), (26, .iconst 0, 1), (27, .istore_n 3, 1), (28, .iload_n 3, 1), (29, .bipush 8, 2), (31, .if_icmp .ge 24, 3), (34, .aload_n 0, 1), (35, .iconst 0, 1), (36, .invokevirtual 357, 3), (39, .ifCond .eq 16, 3), (42, .aload_n 0, 1), (43, .iconst 0, 1), (44, .iconst 0, 1), (45, .iload_n 3, 1), (46, .invokevirtual 360, 3), (49, .iinc 3 1, 3), (52, .goto (-24), 3), (55, .aload_n 0, 1), (56, .iconst 0, 1), (57, .invokevirtual 357, 3), (60, .ifCond .ne 15, 3), (63, .aload_n 0, 1), (64, .getfield 51, 3), (67, .iconst 1, 1), (68, .iaload, 1), (69, .invokestatic 309, 3), (72, .ifCond .eq 5, 3), (75, .iconst (-1), 1), (76, .ireturn, 1), (77, .iload_n 2, 1), (78, .ifCond .eq 7, 3), (81, .iload_n 3, 1), (82, .goto 9, 3), (85, .aload_n 0, 1), (86, .getfield 51, 3), (89, .iconst 1, 1), (90, .iaload, 1), (91, .ireturn, 1)]
theorem dt_X12_straight : ∀ q ∈ D_X12_straight, decode cX12_straight q.1 = .ok q.2 := by decide +kernel
theorem mv_X12_straight : ea_MV yX12_straight (F_X12_straight) 2 := ⟨⟨List.mem_append_right _ (List.mem_of_getElem? (i := 13) (by decide +kernel)), List.mem_append_right _ (List.mem_of_getElem? (i := 1799) (by decide +kernel)), ⟨by decide, by decide⟩, by decide +kernel⟩, List.mem_append_right _ (List.mem_of_getElem? (i := 1797) (by decide +kernel)), List.mem_append_right _ (List.mem_of_getElem? (i := 1798) (by decide +kernel))⟩
def f_X12_straight_s28 (p2 : Int32)  (s28 : Int32 × ea_M) : Option ((Int32 × ea_M) ⊕ (Int32 × ea_M)) :=
  if 8 ≤ s28.1 then
  some (.inr (s28.1, s28.2))
  else
  ea_cl (f_X12_isFlying 0 s28.2) fun r9 m8 =>
  if r9 = 0 then
  some (.inr (s28.1, m8))
  else
  ea_cl (f_X12_breathes 0 0 s28.1 m8) fun r11 m10 =>
  some (.inl (s28.1 + 1, m10))
def f_X12_straight (p1 : Int32) (p2 : Int32) (m : ea_M) : Option (Int32 × ea_M) :=
  ea_bd (ea_st m 272 0 0) fun m1 =>
  ea_cl (f_X12_noBird p1 m1) fun r3 m2 =>
  ea_cl (f_X12_throwsIf r3 1 m2) fun r5 m4 =>
  if r5 = 0 then
  ea_cl (f_X12_begins 0 p1 m4) fun r7 m6 =>
  (ea_loop (f_X12_straight_s28 p2) ea_fuel (0, m6)).bind (fun x28s =>
  ea_cl (f_X12_isFlying 0 x28s.2) fun r13 m12 =>
  if r13 = 0 then
  ea_bd (m12 284 1) fun x14 =>
  ea_cl (f_X12_noColumn x14 m12) fun r16 m15 =>
  if r16 = 0 then
  if p2 = 0 then
  ea_bd (m15 284 1) fun x17 =>
  some (x17, m15)
  else
  some (x28s.1, m15)
  else
  some ((-1), m15)
  else
  some ((-1), m12))
  else
  some (0, m4)
set_option maxHeartbeats 300000 in
theorem lp_X12_straight_28 (G : ea_G) {res : ea_O}  (p2 : Int32)  {Ψ : (Int32 × ea_M) → Prop} (hX : ∀ x28s : Int32 × ea_M, Ψ x28s → ea_Ev G F_X12_straight res 55 [some (.ref 272), none, some (.int p2), some (.int x28s.1)] [] x28s.2 0 0) : ∀ (f : Nat) (s28 : Int32 × ea_M), ea_E G F_X12_straight res 28 [some (.ref 272), none, some (.int p2), some (.int s28.1)] [] s28.2 0 0 (ea_loop (f_X12_straight_s28 p2) f s28) Ψ := by
  refine ev_loop (G := G) (F := F_X12_straight) (res := res) (pc := 28) (st := []) (k := 0) (n := 0) (step := (f_X12_straight_s28 p2)) (Ψ := Ψ) (fun (s28 : Int32 × ea_M) => [some (.ref 272), none, some (.int p2), some (.int s28.1)]) (fun (s28 : Int32 × ea_M) => s28.2) (fun s28 => ?_)
  have hC : ∀ s28 : Int32 × ea_M, (Sum.elim (fun s28 : Int32 × ea_M => ea_Ev G F_X12_straight res 28 [some (.ref 272), none, some (.int p2), some (.int s28.1)] [] s28.2 0 0) Ψ) (.inl s28) → ea_Ev G F_X12_straight res 28 [some (.ref 272), none, some (.int p2), some (.int s28.1)] [] s28.2 0 0 := fun _ h => h
  have hX : ∀ x28s : Int32 × ea_M, (Sum.elim (fun s28 : Int32 × ea_M => ea_Ev G F_X12_straight res 28 [some (.ref 272), none, some (.int p2), some (.int s28.1)] [] s28.2 0 0) Ψ) (.inr x28s) → ea_Ev G F_X12_straight res 55 [some (.ref 272), none, some (.int p2), some (.int x28s.1)] [] x28s.2 0 0 := hX
  unfold f_X12_straight_s28
  refine ev_iload_n (ea_at dt_X12_straight 18 rfl) rfl ?_
  refine ev_bipush (ea_at dt_X12_straight 19 rfl) bp_8 ?_
  refine ev_icmp_ge (tgt := 55) (ea_at dt_X12_straight 20 rfl) rfl (fun _ => ?_) (fun _ => ?_)
  · exact ev_leaf (fun h => ea_drop (l' := [some (.ref 272), none, some (.int p2), some (.int s28.1)]) ⟨Or.inr rfl, Or.inl rfl, Or.inr rfl, Or.inr rfl, trivial⟩ (hX (s28.1, s28.2) h))
  · refine ev_aload_n (ea_at dt_X12_straight 21 rfl) rfl ?_
    refine ev_iconst (ea_at dt_X12_straight 22 rfl) ic_0 ?_
    refine ev_clI (F1 := F_X12_isFlying) (fun rY mY hY => ea_runV (As := [.int 0]) (ea_at dt_X12_straight 23 rfl) ml_X12_357 mv_X12_isFlying (ok_X12_isFlying G 0 s28.2  rY mY hY) sh_272 rfl rfl rfl (Nat.le_of_ble_eq_true rfl) rfl) rfl (fun r9 m8 => ?_)
    refine ev_if_eq (tgt := 55) (ea_at dt_X12_straight 24 rfl) rfl (fun _ => ?_) (fun _ => ?_)
    · exact ev_leaf (fun h => ea_drop (l' := [some (.ref 272), none, some (.int p2), some (.int s28.1)]) ⟨Or.inr rfl, Or.inl rfl, Or.inr rfl, Or.inr rfl, trivial⟩ (hX (s28.1, m8) h))
    · refine ev_aload_n (ea_at dt_X12_straight 25 rfl) rfl ?_
      refine ev_iconst (ea_at dt_X12_straight 26 rfl) ic_0 ?_
      refine ev_iconst (ea_at dt_X12_straight 27 rfl) ic_0 ?_
      refine ev_iload_n (ea_at dt_X12_straight 28 rfl) rfl ?_
      refine ev_clU (F1 := F_X12_breathes) (fun rY mY hY => ea_runV (As := [.int 0, .int 0, .int s28.1]) (ea_at dt_X12_straight 29 rfl) ml_X12_360 mv_X12_breathes (ok_X12_breathes G 0 0 s28.1 m8  rY mY hY) sh_272 rfl rfl rfl (Nat.le_of_ble_eq_true rfl) rfl) rfl (fun r11 m10 => ?_)
      refine ev_iinc (ls' := [some (.ref 272), none, some (.int p2), some (.int (s28.1 + 1))]) (ea_at dt_X12_straight 30 rfl) rfl (congrArg (fun z => _ + z) ic_1) (ea_lt rfl) rfl ?_
      refine ev_goto (tgt := 28) (ea_at dt_X12_straight 31 rfl) rfl ?_
      exact ev_leaf (fun h => ea_drop (l' := [some (.ref 272), none, some (.int p2), some (.int (s28.1 + 1))]) ⟨Or.inr rfl, Or.inl rfl, Or.inr rfl, Or.inr rfl, trivial⟩ (hC (s28.1 + 1, m10) h))
set_option maxHeartbeats 300000 in
theorem ok_X12_straight (G : ea_G) (p1 : Int32) (p2 : Int32) (m : ea_M)  (rZ : Int32) (mZ : ea_M) (hZ : f_X12_straight p1 p2 m = some (rZ, mZ)) : ea_Met G yX12_straight F_X12_straight [.ref 272, .int p1, .int p2] m (0, rZ, mZ) := by
  refine ea_met (F := F_X12_straight) (by decide +kernel) rfl rfl (Nat.le_of_ble_eq_true rfl) (by simp only [List.mem_cons, List.not_mem_nil, or_false]; intro v hv; rcases hv with rfl | rfl | rfl <;> rfl) ((?_ : ea_E G F_X12_straight (0, rZ, mZ) 0 [some (.ref 272), some (.int p1), some (.int p2), none] [] m 0 0 (f_X12_straight p1 p2 m) (fun t => t = (rZ, mZ))) (rZ, mZ) hZ rfl)
  have hR : ∀ t : Int32 × ea_M, t = (rZ, mZ) → ((0, rZ, mZ) : ea_O) = (0, t) := fun t h => by rw [h]
  unfold f_X12_straight
  refine ev_aload_n (ea_at dt_X12_straight 0 rfl) rfl ?_
  refine ev_iconst (ea_at dt_X12_straight 1 rfl) ic_0 ?_
  refine ev_putI (ea_at dt_X12_straight 2 rfl) fl_X12_3 fp_12_0 sh_272 rfl ?_
  refine ev_m (fun m1 => ?_)
  refine ev_aload_n (ea_at dt_X12_straight 3 rfl) rfl ?_
  refine ev_aload_n (ea_at dt_X12_straight 4 rfl) rfl ?_
  refine ev_iload_n (ea_at dt_X12_straight 5 rfl) rfl ?_
  refine ev_clI (F1 := F_X12_noBird) (fun rY mY hY => ea_runV (As := [.int p1]) (ea_at dt_X12_straight 6 rfl) ml_X12_303 mv_X12_noBird (ok_X12_noBird G p1 m1  rY mY hY) sh_272 rfl rfl rfl (Nat.le_of_ble_eq_true rfl) rfl) rfl (fun r3 m2 => ?_)
  refine ev_iconst (ea_at dt_X12_straight 7 rfl) ic_1 ?_
  refine ev_clI (F1 := F_X12_throwsIf) (fun rY mY hY => ea_runV (As := [.int r3, .int 1]) (ea_at dt_X12_straight 8 rfl) ml_X12_265 mv_X12_throwsIf (ok_X12_throwsIf G r3 1 m2  rY mY hY) sh_272 rfl rfl rfl (Nat.le_of_ble_eq_true rfl) rfl) rfl (fun r5 m4 => ?_)
  refine ev_if_eq (tgt := 20) (ea_at dt_X12_straight 9 rfl) rfl (fun _ => ?_) (fun _ => ?_)
  · refine ev_aload_n (ea_at dt_X12_straight 12 rfl) rfl ?_
    refine ev_iconst (ea_at dt_X12_straight 13 rfl) ic_0 ?_
    refine ev_iload_n (ea_at dt_X12_straight 14 rfl) rfl ?_
    refine ev_clU (F1 := F_X12_begins) (fun rY mY hY => ea_runV (As := [.int 0, .int p1]) (ea_at dt_X12_straight 15 rfl) ml_X12_354 mv_X12_begins (ok_X12_begins G 0 p1 m4  rY mY hY) sh_272 rfl rfl rfl (Nat.le_of_ble_eq_true rfl) rfl) rfl (fun r7 m6 => ?_)
    refine ev_iconst (ea_at dt_X12_straight 16 rfl) ic_0 ?_
    refine ev_istore_n (ls' := [some (.ref 272), some (.int p1), some (.int p2), some (.int 0)]) (ea_at dt_X12_straight 17 rfl) (ea_lt rfl) rfl ?_
    refine ev_drop (l' := [some (.ref 272), none, some (.int p2), some (.int 0)]) ⟨Or.inr rfl, Or.inl rfl, Or.inr rfl, Or.inr rfl, trivial⟩ ?_
    refine ev_bind (lp_X12_straight_28 G p2   (fun x28s h => ?_) ea_fuel (0, m6))
    obtain ⟨t1, e1, q1⟩ := h
    refine (?_ : ea_E G F_X12_straight (0, rZ, mZ) 55 [some (.ref 272), none, some (.int p2), some (.int x28s.1)] [] x28s.2 0 0 _ (fun t => t = (rZ, mZ))) t1 e1 q1
    refine ev_aload_n (ea_at dt_X12_straight 32 rfl) rfl ?_
    refine ev_iconst (ea_at dt_X12_straight 33 rfl) ic_0 ?_
    refine ev_clI (F1 := F_X12_isFlying) (fun rY mY hY => ea_runV (As := [.int 0]) (ea_at dt_X12_straight 34 rfl) ml_X12_357 mv_X12_isFlying (ok_X12_isFlying G 0 x28s.2  rY mY hY) sh_272 rfl rfl rfl (Nat.le_of_ble_eq_true rfl) rfl) rfl (fun r13 m12 => ?_)
    refine ev_if_ne (tgt := 75) (ea_at dt_X12_straight 35 rfl) rfl (fun _ => ?_) (fun _ => ?_)
    · refine ev_aload_n (ea_at dt_X12_straight 36 rfl) rfl ?_
      refine ev_getR (ea_at dt_X12_straight 37 rfl) fl_X12_51 sh_272 rfl ?_
      refine ev_iconst (ea_at dt_X12_straight 38 rfl) ic_1 ?_
      refine ev_ialoadC (j := 1) (ea_at dt_X12_straight 39 rfl) sh_284 (by decide) (by decide) (by decide) (by decide) ?_
      refine ev_i (fun x14 => ?_)
      refine ev_clI (F1 := F_X12_noColumn) (fun rY mY hY => ea_runS (As := [.int x14]) (ea_at dt_X12_straight 40 rfl) ml_X12_309 mv_X12_noColumn (ok_X12_noColumn G x14 m12  rY mY hY) rfl rfl (Nat.le_of_ble_eq_true rfl) rfl) rfl (fun r16 m15 => ?_)
      refine ev_if_eq (tgt := 77) (ea_at dt_X12_straight 41 rfl) rfl (fun _ => ?_) (fun _ => ?_)
      · refine ev_iload_n (ea_at dt_X12_straight 44 rfl) rfl ?_
        refine ev_if_eq (tgt := 85) (ea_at dt_X12_straight 45 rfl) rfl (fun _ => ?_) (fun _ => ?_)
        · refine ev_aload_n (ea_at dt_X12_straight 48 rfl) rfl ?_
          refine ev_getR (ea_at dt_X12_straight 49 rfl) fl_X12_51 sh_272 rfl ?_
          refine ev_iconst (ea_at dt_X12_straight 50 rfl) ic_1 ?_
          refine ev_ialoadC (j := 1) (ea_at dt_X12_straight 51 rfl) sh_284 (by decide) (by decide) (by decide) (by decide) ?_
          refine ev_i (fun x17 => ?_)
          exact ev_iret (ea_at dt_X12_straight 52 rfl) rfl ⟨by decide, by decide⟩ (fun h => hR _ h)
        · refine ev_iload_n (ea_at dt_X12_straight 46 rfl) rfl ?_
          refine ev_goto (tgt := 91) (ea_at dt_X12_straight 47 rfl) rfl ?_
          exact ev_iret (ea_at dt_X12_straight 52 rfl) rfl ⟨by decide, by decide⟩ (fun h => hR _ h)
      · refine ev_iconst (ea_at dt_X12_straight 42 rfl) ic_m1 ?_
        exact ev_iret (ea_at dt_X12_straight 43 rfl) rfl ⟨by decide, by decide⟩ (fun h => hR _ h)
    · refine ev_iconst (ea_at dt_X12_straight 42 rfl) ic_m1 ?_
      exact ev_iret (ea_at dt_X12_straight 43 rfl) rfl ⟨by decide, by decide⟩ (fun h => hR _ h)
  · refine ev_iconst (ea_at dt_X12_straight 10 rfl) ic_0 ?_
    exact ev_iret (ea_at dt_X12_straight 11 rfl) rfl ⟨by decide, by decide⟩ (fun h => hR _ h)
def F_X12_called : ea_F := (ea_rm 15 0 0, cX12_called, RX12, some .int, 5, [], 0, 0)
def D_X12_called : List (Nat × Instr × Nat) := [(0, .aload_n 0, 1), (1, .iconst 0, 1), (2, .iload_n 1, 1), (3, .invokevirtual 354, 3), (6, .aload_n 0, 1), (7, .iconst 1, 1), (8, .iload_n 2, 1), (9, .invokevirtual 354, 3), (12, .iconst 0, 1), (13, .istore_n 3, 1), (14, .iload_n 3, 1), (15, .bipush 8, 2), (17, .if_icmp .ge 47, 3), (20, .iconst 0, 1), (21, .istore 4, 2), (23, .iload 4, 2), (25, .iconst 2, 1), (26, .if_icmp .ge 32, 3), (29, .aload_n 0, 1), (30, .iload 4, 2), (32, .invokevirtual 357, 3), (35, .ifCond .eq 17, 3), (38, .aload_n 0, 1), (39, .iload 4, 2), (41, .aload_n 0, 1), (42, .iconst 3, 1), (43, .invokevirtual 363, 3), (46, .iconst 1, 1), (47, .isub, 1), (48, .iload_n 3, 1), (49, .invokevirtual 360, 3), (52, .iinc 4 1, 3), (55, .goto (-32), 3), (58, .iinc 3 1, 3), (61, .goto (-47), 3), (64, .aload_n 0, 1), (65, .iconst 0, 1), (66, .invokevirtual 366, 3), (69, .istore_n 3, 1), (70, .aload_n 0, 1), (71, .iconst 1, 1), (72, .invokevirtual 366, 3), (75, .istore 4, 2), (77, .iload_n 3, 1), (78, .ifCond .ne 10, 3), (81, .iload 4, 2), (83, .ifCond .ne 5, 3), (86, .iconst 4, 1), (87, .ireturn, 1), (88, .iload_n 3, 1), (89, .iload 4, 2), (91, .if_icmp .ne 5, 3), (94, .iconst 3, 1), (95, .ireturn, 1), (96, .iload 4, 2), (98, .ifCond .eq 13, 3), (101, .iload_n 3, 1), (102, .ifCond .le 13, 3), (105, .iload_n 3, 1), (106, .iload 4, 2), (108, .if_icmp .ge 7, 3), (111, .iconst 1, 1), (112, .goto 4, 3), (115, .iconst 2, 1), (116, .ireturn, 1)]
theorem dt_X12_called : ∀ q ∈ D_X12_called, decode cX12_called q.1 = .ok q.2 := by decide +kernel
theorem mv_X12_called : ea_MV yX12_called (F_X12_called) 2 := ⟨⟨List.mem_append_right _ (List.mem_of_getElem? (i := 13) (by decide +kernel)), List.mem_append_right _ (List.mem_of_getElem? (i := 1928) (by decide +kernel)), ⟨by decide, by decide⟩, by decide +kernel⟩, List.mem_append_right _ (List.mem_of_getElem? (i := 1927) (by decide +kernel)), List.mem_append_left _ (List.mem_of_getElem? (i := 107) (by decide +kernel))⟩
def f_X12_called_j52 (s14 : Int32 × ea_M) (x7 : Int32) (m8 : ea_M) : Option ((Int32 × ea_M) ⊕ (ea_M)) :=
  some (.inl (x7 + 1, m8))
def f_X12_called_s23 (s14 : Int32 × ea_M)  (s23 : Int32 × ea_M) : Option ((Int32 × ea_M) ⊕ (ea_M)) :=
  if 2 ≤ s23.1 then
  some (.inr s23.2)
  else
  ea_cl (f_X12_isFlying s23.1 s23.2) fun r6 m5 =>
  if r6 = 0 then
  f_X12_called_j52 s14 s23.1 m5
  else
  ea_cl (f_X12_drawn 3 m5) fun r10 m9 =>
  ea_cl (f_X12_breathes s23.1 (r10 - 1) s14.1 m9) fun r12 m11 =>
  f_X12_called_j52 s14 s23.1 m11
def f_X12_called_s14  (s14 : Int32 × ea_M) : Option ((Int32 × ea_M) ⊕ (ea_M)) :=
  if 8 ≤ s14.1 then
  some (.inr s14.2)
  else
  (ea_loop (f_X12_called_s23 s14) ea_fuel (0, s14.2)).bind (fun x23s =>
  some (.inl (s14.1 + 1, x23s)))
def f_X12_called_j111 (m20 : ea_M) : Option (Int32 × ea_M) :=
  some (1, m20)
def f_X12_called_j88 (x17 : Int32) (x18 : Int32) (m19 : ea_M) : Option (Int32 × ea_M) :=
  if x17 = x18 then
  some (3, m19)
  else
  if x18 = 0 then
  f_X12_called_j111 m19
  else
  if x17 ≤ 0 then
  some (2, m19)
  else
  if x18 ≤ x17 then
  some (2, m19)
  else
  f_X12_called_j111 m19
def f_X12_called (p1 : Int32) (p2 : Int32) (m : ea_M) : Option (Int32 × ea_M) :=
  ea_cl (f_X12_begins 0 p1 m) fun r2 m1 =>
  ea_cl (f_X12_begins 1 p2 m1) fun r4 m3 =>
  (ea_loop f_X12_called_s14 ea_fuel (0, m3)).bind (fun x14s =>
  ea_cl (f_X12_goodIn 0 x14s) fun r14 m13 =>
  ea_cl (f_X12_goodIn 1 m13) fun r16 m15 =>
  if r14 = 0 then
  if r16 = 0 then
  some (4, m15)
  else
  f_X12_called_j88 r14 r16 m15
  else
  f_X12_called_j88 r14 r16 m15)
set_option maxHeartbeats 300000 in
theorem jn_X12_called_52 (G : ea_G) {res : ea_O}  (s14 : Int32 × ea_M) (x7 : Int32) (m8 : ea_M)  {Φ : ((Int32 × ea_M) ⊕ (ea_M)) → Prop} (hC : ∀ s23 : Int32 × ea_M, Φ (.inl s23) → ea_Ev G F_X12_called res 23 [some (.ref 272), none, none, some (.int s14.1), some (.int s23.1)] [] s23.2 0 0) (hX : ∀ x23s : ea_M, Φ (.inr x23s) → ea_Ev G F_X12_called res 58 [some (.ref 272), none, none, some (.int s14.1), none] [] x23s 0 0) : ea_E G F_X12_called res 52 [some (.ref 272), none, none, some (.int s14.1), some (.int x7)] [] m8 0 0 (f_X12_called_j52 s14 x7 m8) Φ := by
  unfold f_X12_called_j52
  refine ev_iinc (ls' := [some (.ref 272), none, none, some (.int s14.1), some (.int (x7 + 1))]) (ea_at dt_X12_called 31 rfl) rfl (congrArg (fun z => _ + z) ic_1) (ea_lt rfl) rfl ?_
  refine ev_goto (tgt := 23) (ea_at dt_X12_called 32 rfl) rfl ?_
  exact ev_leaf (fun h => ea_drop (l' := [some (.ref 272), none, none, some (.int s14.1), some (.int (x7 + 1))]) ⟨Or.inr rfl, Or.inl rfl, Or.inl rfl, Or.inr rfl, Or.inr rfl, trivial⟩ (hC (x7 + 1, m8) h))
set_option maxHeartbeats 300000 in
theorem lp_X12_called_23 (G : ea_G) {res : ea_O}  (s14 : Int32 × ea_M)  {Ψ : ea_M → Prop} (hX : ∀ x23s : ea_M, Ψ x23s → ea_Ev G F_X12_called res 58 [some (.ref 272), none, none, some (.int s14.1), none] [] x23s 0 0) : ∀ (f : Nat) (s23 : Int32 × ea_M), ea_E G F_X12_called res 23 [some (.ref 272), none, none, some (.int s14.1), some (.int s23.1)] [] s23.2 0 0 (ea_loop (f_X12_called_s23 s14) f s23) Ψ := by
  refine ev_loop (G := G) (F := F_X12_called) (res := res) (pc := 23) (st := []) (k := 0) (n := 0) (step := (f_X12_called_s23 s14)) (Ψ := Ψ) (fun (s23 : Int32 × ea_M) => [some (.ref 272), none, none, some (.int s14.1), some (.int s23.1)]) (fun (s23 : Int32 × ea_M) => s23.2) (fun s23 => ?_)
  have hC : ∀ s23 : Int32 × ea_M, (Sum.elim (fun s23 : Int32 × ea_M => ea_Ev G F_X12_called res 23 [some (.ref 272), none, none, some (.int s14.1), some (.int s23.1)] [] s23.2 0 0) Ψ) (.inl s23) → ea_Ev G F_X12_called res 23 [some (.ref 272), none, none, some (.int s14.1), some (.int s23.1)] [] s23.2 0 0 := fun _ h => h
  have hX : ∀ x23s : ea_M, (Sum.elim (fun s23 : Int32 × ea_M => ea_Ev G F_X12_called res 23 [some (.ref 272), none, none, some (.int s14.1), some (.int s23.1)] [] s23.2 0 0) Ψ) (.inr x23s) → ea_Ev G F_X12_called res 58 [some (.ref 272), none, none, some (.int s14.1), none] [] x23s 0 0 := hX
  unfold f_X12_called_s23
  refine ev_iload (ea_at dt_X12_called 15 rfl) rfl ?_
  refine ev_iconst (ea_at dt_X12_called 16 rfl) ic_2 ?_
  refine ev_icmp_ge (tgt := 58) (ea_at dt_X12_called 17 rfl) rfl (fun _ => ?_) (fun _ => ?_)
  · exact ev_leaf (fun h => ea_drop (l' := [some (.ref 272), none, none, some (.int s14.1), none]) ⟨Or.inr rfl, Or.inl rfl, Or.inl rfl, Or.inr rfl, Or.inl rfl, trivial⟩ (hX s23.2 h))
  · refine ev_aload_n (ea_at dt_X12_called 18 rfl) rfl ?_
    refine ev_iload (ea_at dt_X12_called 19 rfl) rfl ?_
    refine ev_clI (F1 := F_X12_isFlying) (fun rY mY hY => ea_runV (As := [.int s23.1]) (ea_at dt_X12_called 20 rfl) ml_X12_357 mv_X12_isFlying (ok_X12_isFlying G s23.1 s23.2  rY mY hY) sh_272 rfl rfl rfl (Nat.le_of_ble_eq_true rfl) rfl) rfl (fun r6 m5 => ?_)
    refine ev_if_eq (tgt := 52) (ea_at dt_X12_called 21 rfl) rfl (fun _ => ?_) (fun _ => ?_)
    · exact ev_drop (l' := [some (.ref 272), none, none, some (.int s14.1), some (.int s23.1)]) ⟨Or.inr rfl, Or.inl rfl, Or.inl rfl, Or.inr rfl, Or.inr rfl, trivial⟩ (jn_X12_called_52 G s14 s23.1 m5  hC hX)
    · refine ev_aload_n (ea_at dt_X12_called 22 rfl) rfl ?_
      refine ev_iload (ea_at dt_X12_called 23 rfl) rfl ?_
      refine ev_aload_n (ea_at dt_X12_called 24 rfl) rfl ?_
      refine ev_iconst (ea_at dt_X12_called 25 rfl) ic_3 ?_
      refine ev_clI (F1 := F_X12_drawn) (fun rY mY hY => ea_runV (As := [.int 3]) (ea_at dt_X12_called 26 rfl) ml_X12_363 mv_X12_drawn (ok_X12_drawn G 3 m5  rY mY hY) sh_272 rfl rfl rfl (Nat.le_of_ble_eq_true rfl) rfl) rfl (fun r10 m9 => ?_)
      refine ev_iconst (ea_at dt_X12_called 27 rfl) ic_1 ?_
      refine ev_isub (ea_at dt_X12_called 28 rfl) ?_
      refine ev_iload_n (ea_at dt_X12_called 29 rfl) rfl ?_
      refine ev_clU (F1 := F_X12_breathes) (fun rY mY hY => ea_runV (As := [.int s23.1, .int (r10 - 1), .int s14.1]) (ea_at dt_X12_called 30 rfl) ml_X12_360 mv_X12_breathes (ok_X12_breathes G s23.1 (r10 - 1) s14.1 m9  rY mY hY) sh_272 rfl rfl rfl (Nat.le_of_ble_eq_true rfl) rfl) rfl (fun r12 m11 => ?_)
      exact ev_drop (l' := [some (.ref 272), none, none, some (.int s14.1), some (.int s23.1)]) ⟨Or.inr rfl, Or.inl rfl, Or.inl rfl, Or.inr rfl, Or.inr rfl, trivial⟩ (jn_X12_called_52 G s14 s23.1 m11  hC hX)
set_option maxHeartbeats 300000 in
theorem lp_X12_called_14 (G : ea_G) {res : ea_O}    {Ψ : ea_M → Prop} (hX : ∀ x14s : ea_M, Ψ x14s → ea_Ev G F_X12_called res 64 [some (.ref 272), none, none, none, none] [] x14s 0 0) : ∀ (f : Nat) (s14 : Int32 × ea_M), ea_E G F_X12_called res 14 [some (.ref 272), none, none, some (.int s14.1), none] [] s14.2 0 0 (ea_loop f_X12_called_s14 f s14) Ψ := by
  refine ev_loop (G := G) (F := F_X12_called) (res := res) (pc := 14) (st := []) (k := 0) (n := 0) (step := f_X12_called_s14) (Ψ := Ψ) (fun (s14 : Int32 × ea_M) => [some (.ref 272), none, none, some (.int s14.1), none]) (fun (s14 : Int32 × ea_M) => s14.2) (fun s14 => ?_)
  have hC : ∀ s14 : Int32 × ea_M, (Sum.elim (fun s14 : Int32 × ea_M => ea_Ev G F_X12_called res 14 [some (.ref 272), none, none, some (.int s14.1), none] [] s14.2 0 0) Ψ) (.inl s14) → ea_Ev G F_X12_called res 14 [some (.ref 272), none, none, some (.int s14.1), none] [] s14.2 0 0 := fun _ h => h
  have hX : ∀ x14s : ea_M, (Sum.elim (fun s14 : Int32 × ea_M => ea_Ev G F_X12_called res 14 [some (.ref 272), none, none, some (.int s14.1), none] [] s14.2 0 0) Ψ) (.inr x14s) → ea_Ev G F_X12_called res 64 [some (.ref 272), none, none, none, none] [] x14s 0 0 := hX
  unfold f_X12_called_s14
  refine ev_iload_n (ea_at dt_X12_called 10 rfl) rfl ?_
  refine ev_bipush (ea_at dt_X12_called 11 rfl) bp_8 ?_
  refine ev_icmp_ge (tgt := 64) (ea_at dt_X12_called 12 rfl) rfl (fun _ => ?_) (fun _ => ?_)
  · exact ev_leaf (fun h => ea_drop (l' := [some (.ref 272), none, none, none, none]) ⟨Or.inr rfl, Or.inl rfl, Or.inl rfl, Or.inl rfl, Or.inl rfl, trivial⟩ (hX s14.2 h))
  · refine ev_iconst (ea_at dt_X12_called 13 rfl) ic_0 ?_
    refine ev_istore (ls' := [some (.ref 272), none, none, some (.int s14.1), some (.int 0)]) (ea_at dt_X12_called 14 rfl) (ea_lt rfl) rfl ?_
    refine ev_drop (l' := [some (.ref 272), none, none, some (.int s14.1), some (.int 0)]) ⟨Or.inr rfl, Or.inl rfl, Or.inl rfl, Or.inr rfl, Or.inr rfl, trivial⟩ ?_
    refine ev_bind (lp_X12_called_23 G s14   (fun x23s h => ?_) ea_fuel (0, s14.2))
    obtain ⟨t1, e1, q1⟩ := h
    refine (?_ : ea_E G F_X12_called res 58 [some (.ref 272), none, none, some (.int s14.1), none] [] x23s 0 0 _ (Sum.elim (fun s14 : Int32 × ea_M => ea_Ev G F_X12_called res 14 [some (.ref 272), none, none, some (.int s14.1), none] [] s14.2 0 0) Ψ)) t1 e1 q1
    refine ev_iinc (ls' := [some (.ref 272), none, none, some (.int (s14.1 + 1)), none]) (ea_at dt_X12_called 33 rfl) rfl (congrArg (fun z => _ + z) ic_1) (ea_lt rfl) rfl ?_
    refine ev_goto (tgt := 14) (ea_at dt_X12_called 34 rfl) rfl ?_
    exact ev_leaf (fun h => ea_drop (l' := [some (.ref 272), none, none, some (.int (s14.1 + 1)), none]) ⟨Or.inr rfl, Or.inl rfl, Or.inl rfl, Or.inr rfl, Or.inl rfl, trivial⟩ (hC (s14.1 + 1, x23s) h))
set_option maxHeartbeats 300000 in
theorem jn_X12_called_111 (G : ea_G) {res : ea_O}  (m20 : ea_M)  {Φ : (Int32 × ea_M) → Prop} (hR : ∀ t : Int32 × ea_M, Φ t → res = (0, t)) : ea_E G F_X12_called res 111 [none, none, none, none, none] [] m20 0 0 (f_X12_called_j111 m20) Φ := by
  unfold f_X12_called_j111
  refine ev_iconst (ea_at dt_X12_called 61 rfl) ic_1 ?_
  refine ev_goto (tgt := 116) (ea_at dt_X12_called 62 rfl) rfl ?_
  exact ev_iret (ea_at dt_X12_called 64 rfl) rfl ⟨by decide, by decide⟩ (fun h => hR _ h)
set_option maxHeartbeats 300000 in
theorem jn_X12_called_88 (G : ea_G) {res : ea_O}  (x17 : Int32) (x18 : Int32) (m19 : ea_M)  {Φ : (Int32 × ea_M) → Prop} (hR : ∀ t : Int32 × ea_M, Φ t → res = (0, t)) : ea_E G F_X12_called res 88 [none, none, none, some (.int x17), some (.int x18)] [] m19 0 0 (f_X12_called_j88 x17 x18 m19) Φ := by
  unfold f_X12_called_j88
  refine ev_iload_n (ea_at dt_X12_called 49 rfl) rfl ?_
  refine ev_iload (ea_at dt_X12_called 50 rfl) rfl ?_
  refine ev_icmp_ne (tgt := 96) (ea_at dt_X12_called 51 rfl) rfl (fun _ => ?_) (fun _ => ?_)
  · refine ev_iconst (ea_at dt_X12_called 52 rfl) ic_3 ?_
    exact ev_iret (ea_at dt_X12_called 53 rfl) rfl ⟨by decide, by decide⟩ (fun h => hR _ h)
  · refine ev_iload (ea_at dt_X12_called 54 rfl) rfl ?_
    refine ev_if_eq (tgt := 111) (ea_at dt_X12_called 55 rfl) rfl (fun _ => ?_) (fun _ => ?_)
    · exact ev_drop (l' := [none, none, none, none, none]) ⟨Or.inl rfl, Or.inl rfl, Or.inl rfl, Or.inl rfl, Or.inl rfl, trivial⟩ (jn_X12_called_111 G m19  hR)
    · refine ev_iload_n (ea_at dt_X12_called 56 rfl) rfl ?_
      refine ev_if_le (tgt := 115) (ea_at dt_X12_called 57 rfl) rfl (fun _ => ?_) (fun _ => ?_)
      · refine ev_iconst (ea_at dt_X12_called 63 rfl) ic_2 ?_
        exact ev_iret (ea_at dt_X12_called 64 rfl) rfl ⟨by decide, by decide⟩ (fun h => hR _ h)
      · refine ev_iload_n (ea_at dt_X12_called 58 rfl) rfl ?_
        refine ev_iload (ea_at dt_X12_called 59 rfl) rfl ?_
        refine ev_icmp_ge (tgt := 115) (ea_at dt_X12_called 60 rfl) rfl (fun _ => ?_) (fun _ => ?_)
        · refine ev_iconst (ea_at dt_X12_called 63 rfl) ic_2 ?_
          exact ev_iret (ea_at dt_X12_called 64 rfl) rfl ⟨by decide, by decide⟩ (fun h => hR _ h)
        · exact ev_drop (l' := [none, none, none, none, none]) ⟨Or.inl rfl, Or.inl rfl, Or.inl rfl, Or.inl rfl, Or.inl rfl, trivial⟩ (jn_X12_called_111 G m19  hR)
set_option maxHeartbeats 300000 in
theorem ok_X12_called (G : ea_G) (p1 : Int32) (p2 : Int32) (m : ea_M)  (rZ : Int32) (mZ : ea_M) (hZ : f_X12_called p1 p2 m = some (rZ, mZ)) : ea_Met G yX12_called F_X12_called [.ref 272, .int p1, .int p2] m (0, rZ, mZ) := by
  refine ea_met (F := F_X12_called) (by decide +kernel) rfl rfl (Nat.le_of_ble_eq_true rfl) (by simp only [List.mem_cons, List.not_mem_nil, or_false]; intro v hv; rcases hv with rfl | rfl | rfl <;> rfl) ((?_ : ea_E G F_X12_called (0, rZ, mZ) 0 [some (.ref 272), some (.int p1), some (.int p2), none, none] [] m 0 0 (f_X12_called p1 p2 m) (fun t => t = (rZ, mZ))) (rZ, mZ) hZ rfl)
  have hR : ∀ t : Int32 × ea_M, t = (rZ, mZ) → ((0, rZ, mZ) : ea_O) = (0, t) := fun t h => by rw [h]
  unfold f_X12_called
  refine ev_aload_n (ea_at dt_X12_called 0 rfl) rfl ?_
  refine ev_iconst (ea_at dt_X12_called 1 rfl) ic_0 ?_
  refine ev_iload_n (ea_at dt_X12_called 2 rfl) rfl ?_
  refine ev_clU (F1 := F_X12_begins) (fun rY mY hY => ea_runV (As := [.int 0, .int p1]) (ea_at dt_X12_called 3 rfl) ml_X12_354 mv_X12_begins (ok_X12_begins G 0 p1 m  rY mY hY) sh_272 rfl rfl rfl (Nat.le_of_ble_eq_true rfl) rfl) rfl (fun r2 m1 => ?_)
  refine ev_aload_n (ea_at dt_X12_called 4 rfl) rfl ?_
  refine ev_iconst (ea_at dt_X12_called 5 rfl) ic_1 ?_
  refine ev_iload_n (ea_at dt_X12_called 6 rfl) rfl ?_
  refine ev_clU (F1 := F_X12_begins) (fun rY mY hY => ea_runV (As := [.int 1, .int p2]) (ea_at dt_X12_called 7 rfl) ml_X12_354 mv_X12_begins (ok_X12_begins G 1 p2 m1  rY mY hY) sh_272 rfl rfl rfl (Nat.le_of_ble_eq_true rfl) rfl) rfl (fun r4 m3 => ?_)
  refine ev_iconst (ea_at dt_X12_called 8 rfl) ic_0 ?_
  refine ev_istore_n (ls' := [some (.ref 272), some (.int p1), some (.int p2), some (.int 0), none]) (ea_at dt_X12_called 9 rfl) (ea_lt rfl) rfl ?_
  refine ev_drop (l' := [some (.ref 272), none, none, some (.int 0), none]) ⟨Or.inr rfl, Or.inl rfl, Or.inl rfl, Or.inr rfl, Or.inl rfl, trivial⟩ ?_
  refine ev_bind (lp_X12_called_14 G   (fun x14s h => ?_) ea_fuel (0, m3))
  obtain ⟨t1, e1, q1⟩ := h
  refine (?_ : ea_E G F_X12_called (0, rZ, mZ) 64 [some (.ref 272), none, none, none, none] [] x14s 0 0 _ (fun t => t = (rZ, mZ))) t1 e1 q1
  refine ev_aload_n (ea_at dt_X12_called 35 rfl) rfl ?_
  refine ev_iconst (ea_at dt_X12_called 36 rfl) ic_0 ?_
  refine ev_clI (F1 := F_X12_goodIn) (fun rY mY hY => ea_runV (As := [.int 0]) (ea_at dt_X12_called 37 rfl) ml_X12_366 mv_X12_goodIn (ok_X12_goodIn G 0 x14s  rY mY hY) sh_272 rfl rfl rfl (Nat.le_of_ble_eq_true rfl) rfl) rfl (fun r14 m13 => ?_)
  refine ev_istore_n (ls' := [some (.ref 272), none, none, some (.int r14), none]) (ea_at dt_X12_called 38 rfl) (ea_lt rfl) rfl ?_
  refine ev_aload_n (ea_at dt_X12_called 39 rfl) rfl ?_
  refine ev_iconst (ea_at dt_X12_called 40 rfl) ic_1 ?_
  refine ev_clI (F1 := F_X12_goodIn) (fun rY mY hY => ea_runV (As := [.int 1]) (ea_at dt_X12_called 41 rfl) ml_X12_366 mv_X12_goodIn (ok_X12_goodIn G 1 m13  rY mY hY) sh_272 rfl rfl rfl (Nat.le_of_ble_eq_true rfl) rfl) rfl (fun r16 m15 => ?_)
  refine ev_istore (ls' := [some (.ref 272), none, none, some (.int r14), some (.int r16)]) (ea_at dt_X12_called 42 rfl) (ea_lt rfl) rfl ?_
  refine ev_iload_n (ea_at dt_X12_called 43 rfl) rfl ?_
  refine ev_if_ne (tgt := 88) (ea_at dt_X12_called 44 rfl) rfl (fun _ => ?_) (fun _ => ?_)
  · refine ev_iload (ea_at dt_X12_called 45 rfl) rfl ?_
    refine ev_if_ne (tgt := 88) (ea_at dt_X12_called 46 rfl) rfl (fun _ => ?_) (fun _ => ?_)
    · refine ev_iconst (ea_at dt_X12_called 47 rfl) ic_4 ?_
      exact ev_iret (ea_at dt_X12_called 48 rfl) rfl ⟨by decide, by decide⟩ (fun h => hR _ h)
    · exact ev_drop (l' := [none, none, none, some (.int r14), some (.int r16)]) ⟨Or.inl rfl, Or.inl rfl, Or.inl rfl, Or.inr rfl, Or.inr rfl, trivial⟩ (jn_X12_called_88 G r14 r16 m15  hR)
  · exact ev_drop (l' := [none, none, none, some (.int r14), some (.int r16)]) ⟨Or.inl rfl, Or.inl rfl, Or.inl rfl, Or.inr rfl, Or.inr rfl, trivial⟩ (jn_X12_called_88 G r14 r16 m15  hR)
