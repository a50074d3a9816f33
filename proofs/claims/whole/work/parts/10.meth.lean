def F_X11_putOnTape : ea_F := (ea_rm 8 0 0, cX11_putOnTape, RX11, none, 3, [], 0, 0)
def D_X11_putOnTape : List (Nat × Instr × Nat) := [(0, .bipush 24, 2), (2, .istore_n 2, 1), (3, .iload_n 2, 1), (4, .ifCond .lt 45, 3), (7, .aload_n 0, 1), (8, .getfield 13, 3), (11, .sipush 400, 3), (14, .if_icmp .ge 35, 3), (17, .aload_n 0, 1), (18, .getfield 9, 3), (21, .aload_n 0, 1), (22, .getfield 13, 3), (25, .iload_n 1, 1), (26, .iload_n 2, 1), (27, .iushr, 1), (28, .sipush 255, 3), (31, .iand, 1), (32, .iastore, 1), (33, .aload_n 0, 1), (34, .dup, 1), (35, .getfield 13, 3), (38, .iconst 1, 1), (39, .iadd, 1), (40, .putfield 13, 3), (43, .iinc 2 (-8), 3), (46, .goto (-43), 3), (49, .return_, 1)]
theorem dt_X11_putOnTape : ∀ q ∈ D_X11_putOnTape, decode cX11_putOnTape q.1 = .ok q.2 := by decide +kernel
theorem mv_X11_putOnTape : ea_MV yX11_putOnTape (F_X11_putOnTape) 1 := ⟨⟨List.mem_append_right _ (List.mem_of_getElem? (i := 1) (by decide +kernel)), List.mem_append_right _ (List.mem_of_getElem? (i := 480) (by decide +kernel)), ⟨by decide, by decide⟩, by decide +kernel⟩, List.mem_append_right _ (List.mem_of_getElem? (i := 479) (by decide +kernel)), List.mem_append_left _ (List.mem_of_getElem? (i := 0) (by decide +kernel))⟩
def f_X11_putOnTape_s3 (p1 : Int32)  (s3 : Int32 × ea_M) : Option ((Int32 × ea_M) ⊕ (ea_M)) :=
  if s3.1 < 0 then
  some (.inr s3.2)
  else
  ea_bd (s3.2 0 1) fun x1 =>
  if 400 ≤ x1 then
  some (.inr s3.2)
  else
  ea_bd (s3.2 0 1) fun x2 =>
  ea_bd (((Int32.toUInt32 p1 >>> (Int32.toUInt32 s3.1 &&& Int32.toUInt32 31)).toInt32) &&& 255) fun x3 =>
  ea_g x2 400 (ea_bd (ea_st s3.2 1 (Int32.toNatClampNeg x2) x3) fun m4 =>
  ea_bd (m4 0 1) fun x5 =>
  ea_bd (ea_st m4 0 1 (x5 + 1)) fun m6 =>
  some (.inl (s3.1 + (-8), m6)))
def f_X11_putOnTape (p1 : Int32) (m : ea_M) : Option (Int32 × ea_M) :=
  (ea_loop (f_X11_putOnTape_s3 p1) ea_fuel (24, m)).bind (fun x3s =>
  some (0, x3s))
set_option maxHeartbeats 300000 in
theorem lp_X11_putOnTape_3 (G : ea_G) {res : ea_O}  (p1 : Int32)  {Ψ : ea_M → Prop} (hX : ∀ x3s : ea_M, Ψ x3s → ea_Ev G F_X11_putOnTape res 49 [none, none, none] [] x3s 0 0) : ∀ (f : Nat) (s3 : Int32 × ea_M), ea_E G F_X11_putOnTape res 3 [some (.ref 0), some (.int p1), some (.int s3.1)] [] s3.2 0 0 (ea_loop (f_X11_putOnTape_s3 p1) f s3) Ψ := by
  refine ev_loop (G := G) (F := F_X11_putOnTape) (res := res) (pc := 3) (st := []) (k := 0) (n := 0) (step := (f_X11_putOnTape_s3 p1)) (Ψ := Ψ) (fun (s3 : Int32 × ea_M) => [some (.ref 0), some (.int p1), some (.int s3.1)]) (fun (s3 : Int32 × ea_M) => s3.2) (fun s3 => ?_)
  have hC : ∀ s3 : Int32 × ea_M, (Sum.elim (fun s3 : Int32 × ea_M => ea_Ev G F_X11_putOnTape res 3 [some (.ref 0), some (.int p1), some (.int s3.1)] [] s3.2 0 0) Ψ) (.inl s3) → ea_Ev G F_X11_putOnTape res 3 [some (.ref 0), some (.int p1), some (.int s3.1)] [] s3.2 0 0 := fun _ h => h
  have hX : ∀ x3s : ea_M, (Sum.elim (fun s3 : Int32 × ea_M => ea_Ev G F_X11_putOnTape res 3 [some (.ref 0), some (.int p1), some (.int s3.1)] [] s3.2 0 0) Ψ) (.inr x3s) → ea_Ev G F_X11_putOnTape res 49 [none, none, none] [] x3s 0 0 := hX
  unfold f_X11_putOnTape_s3
  refine ev_iload_n (ea_at dt_X11_putOnTape 2 rfl) rfl ?_
  refine ev_if_lt (tgt := 49) (ea_at dt_X11_putOnTape 3 rfl) rfl (fun _ => ?_) (fun _ => ?_)
  · exact ev_leaf (fun h => ea_drop (l' := [none, none, none]) ⟨Or.inl rfl, Or.inl rfl, Or.inl rfl, trivial⟩ (hX s3.2 h))
  · refine ev_aload_n (ea_at dt_X11_putOnTape 4 rfl) rfl ?_
    refine ev_getI (ea_at dt_X11_putOnTape 5 rfl) fl_X11_13 sh_0 rfl ?_
    refine ev_i (fun x1 => ?_)
    refine ev_sipush (ea_at dt_X11_putOnTape 6 rfl) sp_400 ?_
    refine ev_icmp_ge (tgt := 49) (ea_at dt_X11_putOnTape 7 rfl) rfl (fun _ => ?_) (fun _ => ?_)
    · exact ev_leaf (fun h => ea_drop (l' := [none, none, none]) ⟨Or.inl rfl, Or.inl rfl, Or.inl rfl, trivial⟩ (hX s3.2 h))
    · refine ev_aload_n (ea_at dt_X11_putOnTape 8 rfl) rfl ?_
      refine ev_getR (ea_at dt_X11_putOnTape 9 rfl) fl_X11_9 sh_0 rfl ?_
      refine ev_aload_n (ea_at dt_X11_putOnTape 10 rfl) rfl ?_
      refine ev_getI (ea_at dt_X11_putOnTape 11 rfl) fl_X11_13 sh_0 rfl ?_
      refine ev_i (fun x2 => ?_)
      refine ev_iload_n (ea_at dt_X11_putOnTape 12 rfl) rfl ?_
      refine ev_iload_n (ea_at dt_X11_putOnTape 13 rfl) rfl ?_
      refine ev_iushr (ea_at dt_X11_putOnTape 14 rfl) ?_
      refine ev_sipush (ea_at dt_X11_putOnTape 15 rfl) sp_255 ?_
      refine ev_iand (ea_at dt_X11_putOnTape 16 rfl) ?_
      refine ev_i (fun x3 => ?_)
      refine ev_iastore (ea_at dt_X11_putOnTape 17 rfl) sh_1 (by decide) ?_
      refine ev_m (fun m4 => ?_)
      refine ev_aload_n (ea_at dt_X11_putOnTape 18 rfl) rfl ?_
      refine ev_dup (ea_at dt_X11_putOnTape 19 rfl) rfl ?_
      refine ev_getI (ea_at dt_X11_putOnTape 20 rfl) fl_X11_13 sh_0 rfl ?_
      refine ev_i (fun x5 => ?_)
      refine ev_iconst (ea_at dt_X11_putOnTape 21 rfl) ic_1 ?_
      refine ev_iadd (ea_at dt_X11_putOnTape 22 rfl) ?_
      refine ev_putI (ea_at dt_X11_putOnTape 23 rfl) fl_X11_13 fp_11_1 sh_0 rfl ?_
      refine ev_m (fun m6 => ?_)
      refine ev_iinc (ls' := [some (.ref 0), some (.int p1), some (.int (s3.1 + (-8)))]) (ea_at dt_X11_putOnTape 24 rfl) rfl (congrArg (fun z => _ + z) ic_m8) (ea_lt rfl) rfl ?_
      refine ev_goto (tgt := 3) (ea_at dt_X11_putOnTape 25 rfl) rfl ?_
      exact ev_leaf (fun h => ea_drop (l' := [some (.ref 0), some (.int p1), some (.int (s3.1 + (-8)))]) ⟨Or.inr rfl, Or.inr rfl, Or.inr rfl, trivial⟩ (hC (s3.1 + (-8), m6) h))
set_option maxHeartbeats 300000 in
theorem ok_X11_putOnTape (G : ea_G) (p1 : Int32) (m : ea_M)  (rZ : Int32) (mZ : ea_M) (hZ : f_X11_putOnTape p1 m = some (rZ, mZ)) : ea_Met G yX11_putOnTape F_X11_putOnTape [.ref 0, .int p1] m (0, rZ, mZ) := by
  refine ea_met (F := F_X11_putOnTape) (by decide +kernel) rfl rfl (Nat.le_of_ble_eq_true rfl) (by simp only [List.mem_cons, List.not_mem_nil, or_false]; intro v hv; rcases hv with rfl | rfl <;> rfl) ((?_ : ea_E G F_X11_putOnTape (0, rZ, mZ) 0 [some (.ref 0), some (.int p1), none] [] m 0 0 (f_X11_putOnTape p1 m) (fun t => t = (rZ, mZ))) (rZ, mZ) hZ rfl)
  have hR : ∀ t : Int32 × ea_M, t = (rZ, mZ) → ((0, rZ, mZ) : ea_O) = (0, t) := fun t h => by rw [h]
  unfold f_X11_putOnTape
  refine ev_bipush (ea_at dt_X11_putOnTape 0 rfl) bp_24 ?_
  refine ev_istore_n (ls' := [some (.ref 0), some (.int p1), some (.int 24)]) (ea_at dt_X11_putOnTape 1 rfl) (ea_lt rfl) rfl ?_
  refine ev_drop (l' := [some (.ref 0), some (.int p1), some (.int 24)]) ⟨Or.inr rfl, Or.inr rfl, Or.inr rfl, trivial⟩ ?_
  refine ev_bind (lp_X11_putOnTape_3 G p1   (fun x3s h => ?_) ea_fuel (24, m))
  obtain ⟨t1, e1, q1⟩ := h
  refine (?_ : ea_E G F_X11_putOnTape (0, rZ, mZ) 49 [none, none, none] [] x3s 0 0 _ (fun t => t = (rZ, mZ))) t1 e1 q1
  exact ev_vret (ea_at dt_X11_putOnTape 26 rfl) rfl ⟨by decide, by decide⟩ (fun h => ⟨0, hR _ h⟩)
def F_X11_feed : ea_F := (ea_rm 9 0 0, cX11_feed, RX11, some .int, 6, [], 0, 0)
def D_X11_feed : List (Nat × Instr × Nat) := [(0, .aload_n 0, 1), (1, .getfield 13, 3), (4, .bipush 20, 2), (6, .iadd, 1), (7, .sipush 400, 3), (10, .if_icmp .le 5, 3), (13, .iconst (-1), 1), (14, .ireturn, 1), (15, .aload_n 0, 1), (16, .iload_n 1, 1), (17, .invokevirtual 113, 3), (20, .aload_n 0, 1), (21, .iload_n 2, 1), (22, .invokevirtual 113, 3), (25, .aload_n 0, 1), (26, .iload_n 3, 1), (27, .invokevirtual 113, 3), (30, .aload_n 0, 1), (31, .iload 4, 2), (33, .invokevirtual 113, 3), (36, .aload_n 0, 1), (37, .iload 5, 2), (39, .invokevirtual 113, 3), (42, .aload_n 0, 1), (43, .getfield 13, 3), (46, .ireturn, 1)]
theorem dt_X11_feed : ∀ q ∈ D_X11_feed, decode cX11_feed q.1 = .ok q.2 := by decide +kernel
theorem mv_X11_feed : ea_MV yX11_feed (F_X11_feed) 5 := ⟨⟨List.mem_append_right _ (List.mem_of_getElem? (i := 1) (by decide +kernel)), List.mem_append_right _ (List.mem_of_getElem? (i := 476) (by decide +kernel)), ⟨by decide, by decide⟩, by decide +kernel⟩, List.mem_append_right _ (List.mem_of_getElem? (i := 474) (by decide +kernel)), List.mem_append_right _ (List.mem_of_getElem? (i := 475) (by decide +kernel))⟩
def f_X11_feed (p1 : Int32) (p2 : Int32) (p3 : Int32) (p4 : Int32) (p5 : Int32) (m : ea_M) : Option (Int32 × ea_M) :=
  ea_bd (m 0 1) fun x1 =>
  if (x1 + 20) ≤ 400 then
  ea_cl (f_X11_putOnTape p1 m) fun r3 m2 =>
  ea_cl (f_X11_putOnTape p2 m2) fun r5 m4 =>
  ea_cl (f_X11_putOnTape p3 m4) fun r7 m6 =>
  ea_cl (f_X11_putOnTape p4 m6) fun r9 m8 =>
  ea_cl (f_X11_putOnTape p5 m8) fun r11 m10 =>
  ea_bd (m10 0 1) fun x12 =>
  some (x12, m10)
  else
  some ((-1), m)
set_option maxHeartbeats 300000 in
theorem ok_X11_feed (G : ea_G) (p1 : Int32) (p2 : Int32) (p3 : Int32) (p4 : Int32) (p5 : Int32) (m : ea_M)  (rZ : Int32) (mZ : ea_M) (hZ : f_X11_feed p1 p2 p3 p4 p5 m = some (rZ, mZ)) : ea_Met G yX11_feed F_X11_feed [.ref 0, .int p1, .int p2, .int p3, .int p4, .int p5] m (0, rZ, mZ) := by
  refine ea_met (F := F_X11_feed) (by decide +kernel) rfl rfl (Nat.le_of_ble_eq_true rfl) (by simp only [List.mem_cons, List.not_mem_nil, or_false]; intro v hv; rcases hv with rfl | rfl | rfl | rfl | rfl | rfl <;> rfl) ((?_ : ea_E G F_X11_feed (0, rZ, mZ) 0 [some (.ref 0), some (.int p1), some (.int p2), some (.int p3), some (.int p4), some (.int p5)] [] m 0 0 (f_X11_feed p1 p2 p3 p4 p5 m) (fun t => t = (rZ, mZ))) (rZ, mZ) hZ rfl)
  have hR : ∀ t : Int32 × ea_M, t = (rZ, mZ) → ((0, rZ, mZ) : ea_O) = (0, t) := fun t h => by rw [h]
  unfold f_X11_feed
  refine ev_aload_n (ea_at dt_X11_feed 0 rfl) rfl ?_
  refine ev_getI (ea_at dt_X11_feed 1 rfl) fl_X11_13 sh_0 rfl ?_
  refine ev_i (fun x1 => ?_)
  refine ev_bipush (ea_at dt_X11_feed 2 rfl) bp_20 ?_
  refine ev_iadd (ea_at dt_X11_feed 3 rfl) ?_
  refine ev_sipush (ea_at dt_X11_feed 4 rfl) sp_400 ?_
  refine ev_icmp_le (tgt := 15) (ea_at dt_X11_feed 5 rfl) rfl (fun _ => ?_) (fun _ => ?_)
  · refine ev_aload_n (ea_at dt_X11_feed 8 rfl) rfl ?_
    refine ev_iload_n (ea_at dt_X11_feed 9 rfl) rfl ?_
    refine ev_clU (F1 := F_X11_putOnTape) (fun rY mY hY => ea_runV (As := [.int p1]) (ea_at dt_X11_feed 10 rfl) ml_X11_113 mv_X11_putOnTape (ok_X11_putOnTape G p1 m  rY mY hY) sh_0 rfl rfl rfl (Nat.le_of_ble_eq_true rfl) rfl) rfl (fun r3 m2 => ?_)
    refine ev_aload_n (ea_at dt_X11_feed 11 rfl) rfl ?_
    refine ev_iload_n (ea_at dt_X11_feed 12 rfl) rfl ?_
    refine ev_clU (F1 := F_X11_putOnTape) (fun rY mY hY => ea_runV (As := [.int p2]) (ea_at dt_X11_feed 13 rfl) ml_X11_113 mv_X11_putOnTape (ok_X11_putOnTape G p2 m2  rY mY hY) sh_0 rfl rfl rfl (Nat.le_of_ble_eq_true rfl) rfl) rfl (fun r5 m4 => ?_)
    refine ev_aload_n (ea_at dt_X11_feed 14 rfl) rfl ?_
    refine ev_iload_n (ea_at dt_X11_feed 15 rfl) rfl ?_
    refine ev_clU (F1 := F_X11_putOnTape) (fun rY mY hY => ea_runV (As := [.int p3]) (ea_at dt_X11_feed 16 rfl) ml_X11_113 mv_X11_putOnTape (ok_X11_putOnTape G p3 m4  rY mY hY) sh_0 rfl rfl rfl (Nat.le_of_ble_eq_true rfl) rfl) rfl (fun r7 m6 => ?_)
    refine ev_aload_n (ea_at dt_X11_feed 17 rfl) rfl ?_
    refine ev_iload (ea_at dt_X11_feed 18 rfl) rfl ?_
    refine ev_clU (F1 := F_X11_putOnTape) (fun rY mY hY => ea_runV (As := [.int p4]) (ea_at dt_X11_feed 19 rfl) ml_X11_113 mv_X11_putOnTape (ok_X11_putOnTape G p4 m6  rY mY hY) sh_0 rfl rfl rfl (Nat.le_of_ble_eq_true rfl) rfl) rfl (fun r9 m8 => ?_)
    refine ev_aload_n (ea_at dt_X11_feed 20 rfl) rfl ?_
    refine ev_iload (ea_at dt_X11_feed 21 rfl) rfl ?_
    refine ev_clU (F1 := F_X11_putOnTape) (fun rY mY hY => ea_runV (As := [.int p5]) (ea_at dt_X11_feed 22 rfl) ml_X11_113 mv_X11_putOnTape (ok_X11_putOnTape G p5 m8  rY mY hY) sh_0 rfl rfl rfl (Nat.le_of_ble_eq_true rfl) rfl) rfl (fun r11 m10 => ?_)
    refine ev_aload_n (ea_at dt_X11_feed 23 rfl) rfl ?_
    refine ev_getI (ea_at dt_X11_feed 24 rfl) fl_X11_13 sh_0 rfl ?_
    refine ev_i (fun x12 => ?_)
    exact ev_iret (ea_at dt_X11_feed 25 rfl) rfl ⟨by decide, by decide⟩ (fun h => hR _ h)
  · refine ev_iconst (ea_at dt_X11_feed 6 rfl) ic_m1 ?_
    exact ev_iret (ea_at dt_X11_feed 7 rfl) rfl ⟨by decide, by decide⟩ (fun h => hR _ h)
def F_X11_end : ea_F := (ea_rm 8 0 0, cX11_end, RX11, some .boolean, 2, [], 0, 0)
def D_X11_end : List (Nat × Instr × Nat) := [(0, .iload_n 1, 1), (1, .ifCond .lt 11, 3), (4, .iload_n 1, 1), (5, .aload_n 0, 1), (6, .getfield 13, 3), (9, .if_icmp .le 5, 3), (12, .iconst 0, 1), (13, .ireturn, 1), (14, .aload_n 0, 1), (15, .iload_n 1, 1), (16, .putfield 13, 3), (19, .iconst 1, 1), (20, .ireturn, 1)]
theorem dt_X11_end : ∀ q ∈ D_X11_end, decode cX11_end q.1 = .ok q.2 := by decide +kernel
theorem mv_X11_end : ea_MV yX11_end (F_X11_end) 1 := ⟨⟨List.mem_append_right _ (List.mem_of_getElem? (i := 1) (by decide +kernel)), List.mem_append_right _ (List.mem_of_getElem? (i := 484) (by decide +kernel)), ⟨by decide, by decide⟩, by decide +kernel⟩, List.mem_append_right _ (List.mem_of_getElem? (i := 482) (by decide +kernel)), List.mem_append_right _ (List.mem_of_getElem? (i := 483) (by decide +kernel))⟩
def f_X11_end (p1 : Int32) (m : ea_M) : Option (Int32 × ea_M) :=
  if p1 < 0 then
  some (0, m)
  else
  ea_bd (m 0 1) fun x1 =>
  if p1 ≤ x1 then
  ea_bd (ea_st m 0 1 p1) fun m2 =>
  some (1, m2)
  else
  some (0, m)
set_option maxHeartbeats 300000 in
theorem ok_X11_end (G : ea_G) (p1 : Int32) (m : ea_M)  (rZ : Int32) (mZ : ea_M) (hZ : f_X11_end p1 m = some (rZ, mZ)) : ea_Met G yX11_end F_X11_end [.ref 0, .int p1] m (0, rZ, mZ) := by
  refine ea_met (F := F_X11_end) (by decide +kernel) rfl rfl (Nat.le_of_ble_eq_true rfl) (by simp only [List.mem_cons, List.not_mem_nil, or_false]; intro v hv; rcases hv with rfl | rfl <;> rfl) ((?_ : ea_E G F_X11_end (0, rZ, mZ) 0 [some (.ref 0), some (.int p1)] [] m 0 0 (f_X11_end p1 m) (fun t => t = (rZ, mZ))) (rZ, mZ) hZ rfl)
  have hR : ∀ t : Int32 × ea_M, t = (rZ, mZ) → ((0, rZ, mZ) : ea_O) = (0, t) := fun t h => by rw [h]
  unfold f_X11_end
  refine ev_iload_n (ea_at dt_X11_end 0 rfl) rfl ?_
  refine ev_if_lt (tgt := 12) (ea_at dt_X11_end 1 rfl) rfl (fun _ => ?_) (fun _ => ?_)
  · refine ev_iconst (ea_at dt_X11_end 6 rfl) ic_0 ?_
    exact ev_zret (by decide) (ea_at dt_X11_end 7 rfl) rfl ⟨by decide, by decide⟩ (fun h => hR _ h)
  · refine ev_iload_n (ea_at dt_X11_end 2 rfl) rfl ?_
    refine ev_aload_n (ea_at dt_X11_end 3 rfl) rfl ?_
    refine ev_getI (ea_at dt_X11_end 4 rfl) fl_X11_13 sh_0 rfl ?_
    refine ev_i (fun x1 => ?_)
    refine ev_icmp_le (tgt := 14) (ea_at dt_X11_end 5 rfl) rfl (fun _ => ?_) (fun _ => ?_)
    · refine ev_aload_n (ea_at dt_X11_end 8 rfl) rfl ?_
      refine ev_iload_n (ea_at dt_X11_end 9 rfl) rfl ?_
      refine ev_putI (ea_at dt_X11_end 10 rfl) fl_X11_13 fp_11_1 sh_0 rfl ?_
      refine ev_m (fun m2 => ?_)
      refine ev_iconst (ea_at dt_X11_end 11 rfl) ic_1 ?_
      exact ev_zret (by decide) (ea_at dt_X11_end 12 rfl) rfl ⟨by decide, by decide⟩ (fun h => hR _ h)
    · refine ev_iconst (ea_at dt_X11_end 6 rfl) ic_0 ?_
      exact ev_zret (by decide) (ea_at dt_X11_end 7 rfl) rfl ⟨by decide, by decide⟩ (fun h => hR _ h)
def F_X11_useTapeUp : ea_F := (ea_rm 8 0 0, cX11_useTapeUp, RX11, some .int, 2, [], 0, 0)
def D_X11_useTapeUp : List (Nat × Instr × Nat) := [(0, .aload_n 0, 1), (1, .getfield 13, 3), (4, .istore_n 1, 1), (5, .aload_n 0, 1), (6, .iconst 0, 1), (7, .putfield 13, 3), (10, .iload_n 1, 1), (11, .ireturn, 1)]
theorem dt_X11_useTapeUp : ∀ q ∈ D_X11_useTapeUp, decode cX11_useTapeUp q.1 = .ok q.2 := by decide +kernel
theorem mv_X11_useTapeUp : ea_MV yX11_useTapeUp (F_X11_useTapeUp) 0 := ⟨⟨List.mem_append_right _ (List.mem_of_getElem? (i := 1) (by decide +kernel)), List.mem_append_right _ (List.mem_of_getElem? (i := 646) (by decide +kernel)), ⟨by decide, by decide⟩, by decide +kernel⟩, List.mem_append_right _ (List.mem_of_getElem? (i := 645) (by decide +kernel)), List.mem_append_left _ (List.mem_of_getElem? (i := 7) (by decide +kernel))⟩
def f_X11_useTapeUp (m : ea_M) : Option (Int32 × ea_M) :=
  ea_bd (m 0 1) fun x1 =>
  ea_bd (ea_st m 0 1 0) fun m2 =>
  some (x1, m2)
set_option maxHeartbeats 300000 in
theorem ok_X11_useTapeUp (G : ea_G) (m : ea_M)  (rZ : Int32) (mZ : ea_M) (hZ : f_X11_useTapeUp m = some (rZ, mZ)) : ea_Met G yX11_useTapeUp F_X11_useTapeUp [.ref 0] m (0, rZ, mZ) := by
  refine ea_met (F := F_X11_useTapeUp) (by decide +kernel) rfl rfl (Nat.le_of_ble_eq_true rfl) (by simp only [List.mem_cons, List.not_mem_nil, or_false]; intro v hv; rcases hv with rfl <;> rfl) ((?_ : ea_E G F_X11_useTapeUp (0, rZ, mZ) 0 [some (.ref 0), none] [] m 0 0 (f_X11_useTapeUp m) (fun t => t = (rZ, mZ))) (rZ, mZ) hZ rfl)
  have hR : ∀ t : Int32 × ea_M, t = (rZ, mZ) → ((0, rZ, mZ) : ea_O) = (0, t) := fun t h => by rw [h]
  unfold f_X11_useTapeUp
  refine ev_aload_n (ea_at dt_X11_useTapeUp 0 rfl) rfl ?_
  refine ev_getI (ea_at dt_X11_useTapeUp 1 rfl) fl_X11_13 sh_0 rfl ?_
  refine ev_i (fun x1 => ?_)
  refine ev_istore_n (ls' := [some (.ref 0), some (.int x1)]) (ea_at dt_X11_useTapeUp 2 rfl) (ea_lt rfl) rfl ?_
  refine ev_aload_n (ea_at dt_X11_useTapeUp 3 rfl) rfl ?_
  refine ev_iconst (ea_at dt_X11_useTapeUp 4 rfl) ic_0 ?_
  refine ev_putI (ea_at dt_X11_useTapeUp 5 rfl) fl_X11_13 fp_11_1 sh_0 rfl ?_
  refine ev_m (fun m2 => ?_)
  refine ev_iload_n (ea_at dt_X11_useTapeUp 6 rfl) rfl ?_
  exact ev_iret (ea_at dt_X11_useTapeUp 7 rfl) rfl ⟨by decide, by decide⟩ (fun h => hR _ h)
def F_X1_copyFrom : ea_F := (ea_rm 8 0 0, cX1_copyFrom, RX1, none, 2, [], 0, 0)
def D_X1_copyFrom : List (Nat × Instr × Nat) := [(0, .aload_n 0, 1), (1, .aload_n 1, 1), (2, .getfield 9, 3), (5, .putfield 9, 3), (8, .aload_n 0, 1), (9, .aload_n 1, 1), (10, .getfield 15, 3), (13, .putfield 15, 3), (16, .aload_n 1, 1), (17, .getfield 18, 3), (20, .iconst 0, 1), (21, .aload_n 0, 1), (22, .getfield 18, 3), (25, .iconst 0, 1), (26, .aload_n 0, 1), (27, .getfield 18, 3), (30, .arraylength, 1), (31, .invokestatic 34, 3), (34, .aload_n 1, 1), (35, .getfield 22, 3), (38, .iconst 0, 1), (39, .aload_n 0, 1), (40, .getfield 22, 3), (43, .iconst 0, 1), (44, .bipush 12, 2), (46, .invokestatic 34, 3), (49, .aload_n 1, 1), (50, .getfield 25, 3), (53, .iconst 0, 1), (54, .aload_n 0, 1), (55, .getfield 25, 3), (58, .iconst 0, 1), (59, .bipush 12, 2), (61, .invokestatic 34, 3), (64, .aload_n 1, 1), (65, .getfield 28, 3), (68, .iconst 0, 1), (69, .aload_n 0, 1), (70, .getfield 28, 3), (73, .iconst 0, 1), (74, .bipush 12, 2), (76, .invokestatic 34, 3), (79, .aload_n 1, 1), (80, .getfield 31, 3), (83, .iconst 0, 1), (84, .aload_n 0, 1), (85, .getfield 31, 3), (88, .iconst 0, 1), (89, .bipush 12, 2), (91, .invokestatic 34, 3), (94, .return_, 1)]
theorem dt_X1_copyFrom : ∀ q ∈ D_X1_copyFrom, decode cX1_copyFrom q.1 = .ok q.2 := by decide +kernel
theorem mv_X1_copyFrom : ea_MV yX1_copyFrom (F_X1_copyFrom) 1 := ⟨⟨List.mem_append_right _ (List.mem_of_getElem? (i := 3) (by decide +kernel)), List.mem_append_right _ (List.mem_of_getElem? (i := 606) (by decide +kernel)), ⟨by decide, by decide⟩, by decide +kernel⟩, List.mem_append_right _ (List.mem_of_getElem? (i := 604) (by decide +kernel)), List.mem_append_right _ (List.mem_of_getElem? (i := 605) (by decide +kernel))⟩
def f_X1_copyFrom (a : Nat) (p1 : Nat) (m : ea_M) : Option (Int32 × ea_M) :=
  ea_bd (m p1 0) fun x1 =>
  ea_bd (ea_st m a 0 x1) fun m2 =>
  ea_bd (m2 p1 1) fun x3 =>
  ea_bd (ea_st m2 a 1 x3) fun m4 =>
  ea_bd (ea_up m4 (a + 1) (va_cpy (m4 (p1 + 1)) (m4 (a + 1)) 0 0 24)) fun m5 =>
  ea_bd (ea_up m5 (a + 2) (va_cpy (m5 (p1 + 2)) (m5 (a + 2)) 0 0 12)) fun m6 =>
  ea_bd (ea_up m6 (a + 3) (va_cpy (m6 (p1 + 3)) (m6 (a + 3)) 0 0 12)) fun m7 =>
  ea_bd (ea_up m7 (a + 4) (va_cpy (m7 (p1 + 4)) (m7 (a + 4)) 0 0 12)) fun m8 =>
  ea_bd (ea_up m8 (a + 5) (va_cpy (m8 (p1 + 5)) (m8 (a + 5)) 0 0 12)) fun m9 =>
  some (0, m9)
set_option maxHeartbeats 300000 in
theorem ok_X1_copyFrom (G : ea_G) (a : Nat) (p1 : Nat) (m : ea_M) (ha : ea_isBench a) (hp1 : ea_isBench p1) (rZ : Int32) (mZ : ea_M) (hZ : f_X1_copyFrom a p1 m = some (rZ, mZ)) : ea_Met G yX1_copyFrom F_X1_copyFrom [.ref a, .ref p1] m (0, rZ, mZ) := by
  refine ea_met (F := F_X1_copyFrom) (by decide +kernel) rfl rfl (Nat.le_of_ble_eq_true rfl) (by simp only [List.mem_cons, List.not_mem_nil, or_false]; intro v hv; rcases hv with rfl | rfl <;> rfl) ((?_ : ea_E G F_X1_copyFrom (0, rZ, mZ) 0 [some (.ref a), some (.ref p1)] [] m 0 0 (f_X1_copyFrom a p1 m) (fun t => t = (rZ, mZ))) (rZ, mZ) hZ rfl)
  have hR : ∀ t : Int32 × ea_M, t = (rZ, mZ) → ((0, rZ, mZ) : ea_O) = (0, t) := fun t h => by rw [h]
  unfold f_X1_copyFrom
  refine ev_aload_n (ea_at dt_X1_copyFrom 0 rfl) rfl ?_
  refine ev_aload_n (ea_at dt_X1_copyFrom 1 rfl) rfl ?_
  refine ev_getI (ea_at dt_X1_copyFrom 2 rfl) fl_X1_9 hp1.1 rfl ?_
  refine ev_i (fun x1 => ?_)
  refine ev_putI (ea_at dt_X1_copyFrom 3 rfl) fl_X1_9 fp_1_0 ha.1 rfl ?_
  refine ev_m (fun m2 => ?_)
  refine ev_aload_n (ea_at dt_X1_copyFrom 4 rfl) rfl ?_
  refine ev_aload_n (ea_at dt_X1_copyFrom 5 rfl) rfl ?_
  refine ev_getI (ea_at dt_X1_copyFrom 6 rfl) fl_X1_15 hp1.1 rfl ?_
  refine ev_i (fun x3 => ?_)
  refine ev_putI (ea_at dt_X1_copyFrom 7 rfl) fl_X1_15 fp_1_1 ha.1 rfl ?_
  refine ev_m (fun m4 => ?_)
  refine ev_aload_n (ea_at dt_X1_copyFrom 8 rfl) rfl ?_
  refine ev_getR (ea_at dt_X1_copyFrom 9 rfl) fl_X1_18 hp1.1 rfl ?_
  refine ev_iconst (ea_at dt_X1_copyFrom 10 rfl) ic_0 ?_
  refine ev_aload_n (ea_at dt_X1_copyFrom 11 rfl) rfl ?_
  refine ev_getR (ea_at dt_X1_copyFrom 12 rfl) fl_X1_18 ha.1 rfl ?_
  refine ev_iconst (ea_at dt_X1_copyFrom 13 rfl) ic_0 ?_
  refine ev_aload_n (ea_at dt_X1_copyFrom 14 rfl) rfl ?_
  refine ev_getR (ea_at dt_X1_copyFrom 15 rfl) fl_X1_18 ha.1 rfl ?_
  refine ev_alen (ea_at dt_X1_copyFrom 16 rfl) ha.2.1 (by decide) (by decide) ol_24 ?_
  refine ev_copyC (sp' := 0) (dp' := 0) (len' := 24) (ea_at dt_X1_copyFrom 17 rfl) ml_X1_34 ea_copyW hp1.2.1 ha.2.1 (by decide) (by decide) (by decide) (by decide) (by decide) ⟨by decide, by decide⟩ ⟨by decide, by decide⟩ ?_
  refine ev_m (fun m5 => ?_)
  refine ev_aload_n (ea_at dt_X1_copyFrom 18 rfl) rfl ?_
  refine ev_getR (ea_at dt_X1_copyFrom 19 rfl) fl_X1_22 hp1.1 rfl ?_
  refine ev_iconst (ea_at dt_X1_copyFrom 20 rfl) ic_0 ?_
  refine ev_aload_n (ea_at dt_X1_copyFrom 21 rfl) rfl ?_
  refine ev_getR (ea_at dt_X1_copyFrom 22 rfl) fl_X1_22 ha.1 rfl ?_
  refine ev_iconst (ea_at dt_X1_copyFrom 23 rfl) ic_0 ?_
  refine ev_bipush (ea_at dt_X1_copyFrom 24 rfl) bp_12 ?_
  refine ev_copyC (sp' := 0) (dp' := 0) (len' := 12) (ea_at dt_X1_copyFrom 25 rfl) ml_X1_34 ea_copyW hp1.2.2.1 ha.2.2.1 (by decide) (by decide) (by decide) (by decide) (by decide) ⟨by decide, by decide⟩ ⟨by decide, by decide⟩ ?_
  refine ev_m (fun m6 => ?_)
  refine ev_aload_n (ea_at dt_X1_copyFrom 26 rfl) rfl ?_
  refine ev_getR (ea_at dt_X1_copyFrom 27 rfl) fl_X1_25 hp1.1 rfl ?_
  refine ev_iconst (ea_at dt_X1_copyFrom 28 rfl) ic_0 ?_
  refine ev_aload_n (ea_at dt_X1_copyFrom 29 rfl) rfl ?_
  refine ev_getR (ea_at dt_X1_copyFrom 30 rfl) fl_X1_25 ha.1 rfl ?_
  refine ev_iconst (ea_at dt_X1_copyFrom 31 rfl) ic_0 ?_
  refine ev_bipush (ea_at dt_X1_copyFrom 32 rfl) bp_12 ?_
  refine ev_copyC (sp' := 0) (dp' := 0) (len' := 12) (ea_at dt_X1_copyFrom 33 rfl) ml_X1_34 ea_copyW hp1.2.2.2.1 ha.2.2.2.1 (by decide) (by decide) (by decide) (by decide) (by decide) ⟨by decide, by decide⟩ ⟨by decide, by decide⟩ ?_
  refine ev_m (fun m7 => ?_)
  refine ev_aload_n (ea_at dt_X1_copyFrom 34 rfl) rfl ?_
  refine ev_getR (ea_at dt_X1_copyFrom 35 rfl) fl_X1_28 hp1.1 rfl ?_
  refine ev_iconst (ea_at dt_X1_copyFrom 36 rfl) ic_0 ?_
  refine ev_aload_n (ea_at dt_X1_copyFrom 37 rfl) rfl ?_
  refine ev_getR (ea_at dt_X1_copyFrom 38 rfl) fl_X1_28 ha.1 rfl ?_
  refine ev_iconst (ea_at dt_X1_copyFrom 39 rfl) ic_0 ?_
  refine ev_bipush (ea_at dt_X1_copyFrom 40 rfl) bp_12 ?_
  refine ev_copyC (sp' := 0) (dp' := 0) (len' := 12) (ea_at dt_X1_copyFrom 41 rfl) ml_X1_34 ea_copyW hp1.2.2.2.2.1 ha.2.2.2.2.1 (by decide) (by decide) (by decide) (by decide) (by decide) ⟨by decide, by decide⟩ ⟨by decide, by decide⟩ ?_
  refine ev_m (fun m8 => ?_)
  refine ev_aload_n (ea_at dt_X1_copyFrom 42 rfl) rfl ?_
  refine ev_getR (ea_at dt_X1_copyFrom 43 rfl) fl_X1_31 hp1.1 rfl ?_
  refine ev_iconst (ea_at dt_X1_copyFrom 44 rfl) ic_0 ?_
  refine ev_aload_n (ea_at dt_X1_copyFrom 45 rfl) rfl ?_
  refine ev_getR (ea_at dt_X1_copyFrom 46 rfl) fl_X1_31 ha.1 rfl ?_
  refine ev_iconst (ea_at dt_X1_copyFrom 47 rfl) ic_0 ?_
  refine ev_bipush (ea_at dt_X1_copyFrom 48 rfl) bp_12 ?_
  refine ev_copyC (sp' := 0) (dp' := 0) (len' := 12) (ea_at dt_X1_copyFrom 49 rfl) ml_X1_34 ea_copyW hp1.2.2.2.2.2 ha.2.2.2.2.2 (by decide) (by decide) (by decide) (by decide) (by decide) ⟨by decide, by decide⟩ ⟨by decide, by decide⟩ ?_
  refine ev_m (fun m9 => ?_)
  exact ev_vret (ea_at dt_X1_copyFrom 50 rfl) rfl ⟨by decide, by decide⟩ (fun h => ⟨0, hR _ h⟩)
def F_X6_copyFrom : ea_F := (ea_rm 8 0 0, cX6_copyFrom, RX6, none, 2, [], 0, 0)
def D_X6_copyFrom : List (Nat × Instr × Nat) := [(0, .aload_n 0, 1), (1, .aload_n 1, 1), (2, .getfield 9, 3), (5, .putfield 9, 3), (8, .aload_n 0, 1), (9, .aload_n 1, 1), (10, .getfield 15, 3), (13, .putfield 15, 3), (16, .aload_n 1, 1), (17, .getfield 18, 3), (20, .iconst 0, 1), (21, .aload_n 0, 1), (22, .getfield 18, 3), (25, .iconst 0, 1), (26, .aload_n 0, 1), (27, .getfield 18, 3), (30, .arraylength, 1), (31, .invokestatic 22, 3), (34, .return_, 1)]
theorem dt_X6_copyFrom : ∀ q ∈ D_X6_copyFrom, decode cX6_copyFrom q.1 = .ok q.2 := by decide +kernel
theorem mv_X6_copyFrom : ea_MV yX6_copyFrom (F_X6_copyFrom) 1 := ⟨⟨List.mem_append_right _ (List.mem_of_getElem? (i := 4) (by decide +kernel)), List.mem_append_right _ (List.mem_of_getElem? (i := 611) (by decide +kernel)), ⟨by decide, by decide⟩, by decide +kernel⟩, List.mem_append_right _ (List.mem_of_getElem? (i := 609) (by decide +kernel)), List.mem_append_right _ (List.mem_of_getElem? (i := 610) (by decide +kernel))⟩
def f_X6_copyFrom (a : Nat) (p1 : Nat) (m : ea_M) : Option (Int32 × ea_M) :=
  ea_bd (m p1 0) fun x1 =>
  ea_bd (ea_st m a 0 x1) fun m2 =>
  ea_bd (m2 p1 1) fun x3 =>
  ea_bd (ea_st m2 a 1 x3) fun m4 =>
  ea_bd (ea_up m4 (a + 1) (va_cpy (m4 (p1 + 1)) (m4 (a + 1)) 0 0 360)) fun m5 =>
  some (0, m5)
set_option maxHeartbeats 300000 in
theorem ok_X6_copyFrom (G : ea_G) (a : Nat) (p1 : Nat) (m : ea_M) (ha : ea_isJournal a) (hp1 : ea_isJournal p1) (rZ : Int32) (mZ : ea_M) (hZ : f_X6_copyFrom a p1 m = some (rZ, mZ)) : ea_Met G yX6_copyFrom F_X6_copyFrom [.ref a, .ref p1] m (0, rZ, mZ) := by
  refine ea_met (F := F_X6_copyFrom) (by decide +kernel) rfl rfl (Nat.le_of_ble_eq_true rfl) (by simp only [List.mem_cons, List.not_mem_nil, or_false]; intro v hv; rcases hv with rfl | rfl <;> rfl) ((?_ : ea_E G F_X6_copyFrom (0, rZ, mZ) 0 [some (.ref a), some (.ref p1)] [] m 0 0 (f_X6_copyFrom a p1 m) (fun t => t = (rZ, mZ))) (rZ, mZ) hZ rfl)
  have hR : ∀ t : Int32 × ea_M, t = (rZ, mZ) → ((0, rZ, mZ) : ea_O) = (0, t) := fun t h => by rw [h]
  unfold f_X6_copyFrom
  refine ev_aload_n (ea_at dt_X6_copyFrom 0 rfl) rfl ?_
  refine ev_aload_n (ea_at dt_X6_copyFrom 1 rfl) rfl ?_
  refine ev_getI (ea_at dt_X6_copyFrom 2 rfl) fl_X6_9 hp1.1 rfl ?_
  refine ev_i (fun x1 => ?_)
  refine ev_putI (ea_at dt_X6_copyFrom 3 rfl) fl_X6_9 fp_6_0 ha.1 rfl ?_
  refine ev_m (fun m2 => ?_)
  refine ev_aload_n (ea_at dt_X6_copyFrom 4 rfl) rfl ?_
  refine ev_aload_n (ea_at dt_X6_copyFrom 5 rfl) rfl ?_
  refine ev_getI (ea_at dt_X6_copyFrom 6 rfl) fl_X6_15 hp1.1 rfl ?_
  refine ev_i (fun x3 => ?_)
  refine ev_putI (ea_at dt_X6_copyFrom 7 rfl) fl_X6_15 fp_6_1 ha.1 rfl ?_
  refine ev_m (fun m4 => ?_)
  refine ev_aload_n (ea_at dt_X6_copyFrom 8 rfl) rfl ?_
  refine ev_getR (ea_at dt_X6_copyFrom 9 rfl) fl_X6_18 hp1.1 rfl ?_
  refine ev_iconst (ea_at dt_X6_copyFrom 10 rfl) ic_0 ?_
  refine ev_aload_n (ea_at dt_X6_copyFrom 11 rfl) rfl ?_
  refine ev_getR (ea_at dt_X6_copyFrom 12 rfl) fl_X6_18 ha.1 rfl ?_
  refine ev_iconst (ea_at dt_X6_copyFrom 13 rfl) ic_0 ?_
  refine ev_aload_n (ea_at dt_X6_copyFrom 14 rfl) rfl ?_
  refine ev_getR (ea_at dt_X6_copyFrom 15 rfl) fl_X6_18 ha.1 rfl ?_
  refine ev_alen (ea_at dt_X6_copyFrom 16 rfl) ha.2 (by decide) (by decide) ol_360 ?_
  refine ev_copyC (sp' := 0) (dp' := 0) (len' := 360) (ea_at dt_X6_copyFrom 17 rfl) ml_X6_22 ea_copyW hp1.2 ha.2 (by decide) (by decide) (by decide) (by decide) (by decide) ⟨by decide, by decide⟩ ⟨by decide, by decide⟩ ?_
  refine ev_m (fun m5 => ?_)
  exact ev_vret (ea_at dt_X6_copyFrom 18 rfl) rfl ⟨by decide, by decide⟩ (fun h => ⟨0, hR _ h⟩)
def F_X2_copyFrom : ea_F := (ea_rm 9 0 0, cX2_copyFrom, RX2, none, 2, [], 0, 0)
def D_X2_copyFrom : List (Nat × Instr × Nat) := [(0, .aload_n 0, 1), (1, .aload_n 1, 1), (2, .getfield 9, 3), (5, .putfield 9, 3), (8, .aload_n 0, 1), (9, .aload_n 1, 1), (10, .getfield 15, 3), (13, .putfield 15, 3), (16, .aload_n 0, 1), (17, .aload_n 1, 1), (18, .getfield 18, 3), (21, .putfield 18, 3), (24, .aload_n 0, 1), (25, .aload_n 1, 1), (26, .getfield 21, 3), (29, .putfield 21, 3), (32, .aload_n 0, 1), (33, .aload_n 1, 1), (34, .getfield 24, 3), (37, .putfield 24, 3), (40, .aload_n 0, 1), (41, .aload_n 1, 1), (42, .getfield 27, 3), (45, .putfield 27, 3), (48, .aload_n 0, 1), (49, .aload_n 1, 1), (50, .getfield 30, 3), (53, .putfield 30, 3), (56, .aload_n 0, 1), (57, .aload_n 1, 1), (58, .getfield 33, 3), (61, .putfield 33, 3), (64, .aload_n 0, 1), (65, .aload_n 1, 1), (66, .getfield 36, 3), (69, .putfield 36, 3), (72, .aload_n 1, 1), (73, .getfield 39, 3), (76, .iconst 0, 1), (77, .aload_n 0, 1), (78, .getfield 39, 3), (81, .iconst 0, 1), (82, .bipush 13, 2), (84, .invokestatic 69, 3), (87, .aload_n 1, 1), (88, .getfield 43, 3), (91, .iconst 0, 1), (92, .aload_n 0, 1), (93, .getfield 43, 3), (96, .iconst 0, 1), (97, .bipush 6, 2), (99, .invokestatic 69, 3), (102, .aload_n 1, 1), (103, .getfield 46, 3), (106, .iconst 0, 1), (107, .aload_n 0, 1), (108, .getfield 46, 3), (111, .iconst 0, 1), (112, .bipush 6, 2), (114, .invokestatic 69, 3), (117, .aload_n 1, 1), (118, .getfield 49, 3), (121, .iconst 0, 1), (122, .aload_n 0, 1), (123, .getfield 49, 3), (126, .iconst 0, 1), (127, .bipush 6, 2), (129, .invokestatic 69, 3), (132, .aload_n 1, 1), (133, .getfield 52, 3), (136, .iconst 0, 1), (137, .aload_n 0, 1), (138, .getfield 52, 3), (141, .iconst 0, 1), (142, .bipush 6, 2), (144, .invokestatic 69, 3), (147, .aload_n 0, 1), (148, .getfield 58, 3), (151, .aload_n 1, 1), (152, .getfield 58, 3), (155, .invokevirtual 75, 3), (158, .aload_n 0, 1), (159, .getfield 65, 3), (162, .aload_n 1, 1), (163, .getfield 65, 3), (166, .invokevirtual 79, 3), (169, .return_, 1)]
theorem dt_X2_copyFrom : ∀ q ∈ D_X2_copyFrom, decode cX2_copyFrom q.1 = .ok q.2 := by decide +kernel
theorem mv_X2_copyFrom : ea_MV yX2_copyFrom (F_X2_copyFrom) 1 := ⟨⟨List.mem_append_right _ (List.mem_of_getElem? (i := 2) (by decide +kernel)), List.mem_append_right _ (List.mem_of_getElem? (i := 601) (by decide +kernel)), ⟨by decide, by decide⟩, by decide +kernel⟩, List.mem_append_right _ (List.mem_of_getElem? (i := 599) (by decide +kernel)), List.mem_append_right _ (List.mem_of_getElem? (i := 600) (by decide +kernel))⟩
def f_X2_copyFrom (a : Nat) (p1 : Nat) (m : ea_M) : Option (Int32 × ea_M) :=
  ea_bd (m p1 0) fun x1 =>
  ea_bd (ea_st m a 0 x1) fun m2 =>
  ea_bd (m2 p1 1) fun x3 =>
  ea_bd (ea_st m2 a 1 x3) fun m4 =>
  ea_bd (m4 p1 2) fun x5 =>
  ea_bd (ea_st m4 a 2 x5) fun m6 =>
  ea_bd (m6 p1 3) fun x7 =>
  ea_bd (ea_st m6 a 3 x7) fun m8 =>
  ea_bd (m8 p1 4) fun x9 =>
  ea_bd (ea_st m8 a 4 x9) fun m10 =>
  ea_bd (m10 p1 5) fun x11 =>
  ea_bd (ea_st m10 a 5 x11) fun m12 =>
  ea_bd (m12 p1 6) fun x13 =>
  ea_bd (ea_st m12 a 6 x13) fun m14 =>
  ea_bd (m14 p1 7) fun x15 =>
  ea_bd (ea_st m14 a 7 x15) fun m16 =>
  ea_bd (m16 p1 8) fun x17 =>
  ea_bd (ea_st m16 a 8 x17) fun m18 =>
  ea_bd (ea_up m18 (a + 1) (va_cpy (m18 (p1 + 1)) (m18 (a + 1)) 0 0 13)) fun m19 =>
  ea_bd (ea_up m19 (a + 2) (va_cpy (m19 (p1 + 2)) (m19 (a + 2)) 0 0 6)) fun m20 =>
  ea_bd (ea_up m20 (a + 3) (va_cpy (m20 (p1 + 3)) (m20 (a + 3)) 0 0 6)) fun m21 =>
  ea_bd (ea_up m21 (a + 4) (va_cpy (m21 (p1 + 4)) (m21 (a + 4)) 0 0 6)) fun m22 =>
  ea_bd (ea_up m22 (a + 5) (va_cpy (m22 (p1 + 5)) (m22 (a + 5)) 0 0 6)) fun m23 =>
  ea_cl (f_X1_copyFrom (a + 6) (p1 + 6) m23) fun r25 m24 =>
  ea_cl (f_X6_copyFrom (a + 12) (p1 + 12) m24) fun r27 m26 =>
  some (0, m26)
set_option maxHeartbeats 300000 in
theorem ok_X2_copyFrom (G : ea_G) (a : Nat) (p1 : Nat) (m : ea_M) (ha : ea_isCourt a) (hp1 : ea_isCourt p1) (rZ : Int32) (mZ : ea_M) (hZ : f_X2_copyFrom a p1 m = some (rZ, mZ)) : ea_Met G yX2_copyFrom F_X2_copyFrom [.ref a, .ref p1] m (0, rZ, mZ) := by
  refine ea_met (F := F_X2_copyFrom) (by decide +kernel) rfl rfl (Nat.le_of_ble_eq_true rfl) (by simp only [List.mem_cons, List.not_mem_nil, or_false]; intro v hv; rcases hv with rfl | rfl <;> rfl) ((?_ : ea_E G F_X2_copyFrom (0, rZ, mZ) 0 [some (.ref a), some (.ref p1)] [] m 0 0 (f_X2_copyFrom a p1 m) (fun t => t = (rZ, mZ))) (rZ, mZ) hZ rfl)
  have hR : ∀ t : Int32 × ea_M, t = (rZ, mZ) → ((0, rZ, mZ) : ea_O) = (0, t) := fun t h => by rw [h]
  unfold f_X2_copyFrom
  refine ev_aload_n (ea_at dt_X2_copyFrom 0 rfl) rfl ?_
  refine ev_aload_n (ea_at dt_X2_copyFrom 1 rfl) rfl ?_
  refine ev_getI (ea_at dt_X2_copyFrom 2 rfl) fl_X2_9 hp1.1 rfl ?_
  refine ev_i (fun x1 => ?_)
  refine ev_putI (ea_at dt_X2_copyFrom 3 rfl) fl_X2_9 fp_2_0 ha.1 rfl ?_
  refine ev_m (fun m2 => ?_)
  refine ev_aload_n (ea_at dt_X2_copyFrom 4 rfl) rfl ?_
  refine ev_aload_n (ea_at dt_X2_copyFrom 5 rfl) rfl ?_
  refine ev_getI (ea_at dt_X2_copyFrom 6 rfl) fl_X2_15 hp1.1 rfl ?_
  refine ev_i (fun x3 => ?_)
  refine ev_putI (ea_at dt_X2_copyFrom 7 rfl) fl_X2_15 fp_2_1 ha.1 rfl ?_
  refine ev_m (fun m4 => ?_)
  refine ev_aload_n (ea_at dt_X2_copyFrom 8 rfl) rfl ?_
  refine ev_aload_n (ea_at dt_X2_copyFrom 9 rfl) rfl ?_
  refine ev_getI (ea_at dt_X2_copyFrom 10 rfl) fl_X2_18 hp1.1 rfl ?_
  refine ev_i (fun x5 => ?_)
  refine ev_putI (ea_at dt_X2_copyFrom 11 rfl) fl_X2_18 fp_2_2 ha.1 rfl ?_
  refine ev_m (fun m6 => ?_)
  refine ev_aload_n (ea_at dt_X2_copyFrom 12 rfl) rfl ?_
  refine ev_aload_n (ea_at dt_X2_copyFrom 13 rfl) rfl ?_
  refine ev_getI (ea_at dt_X2_copyFrom 14 rfl) fl_X2_21 hp1.1 rfl ?_
  refine ev_i (fun x7 => ?_)
  refine ev_putI (ea_at dt_X2_copyFrom 15 rfl) fl_X2_21 fp_2_3 ha.1 rfl ?_
  refine ev_m (fun m8 => ?_)
  refine ev_aload_n (ea_at dt_X2_copyFrom 16 rfl) rfl ?_
  refine ev_aload_n (ea_at dt_X2_copyFrom 17 rfl) rfl ?_
  refine ev_getI (ea_at dt_X2_copyFrom 18 rfl) fl_X2_24 hp1.1 rfl ?_
  refine ev_i (fun x9 => ?_)
  refine ev_putI (ea_at dt_X2_copyFrom 19 rfl) fl_X2_24 fp_2_4 ha.1 rfl ?_
  refine ev_m (fun m10 => ?_)
  refine ev_aload_n (ea_at dt_X2_copyFrom 20 rfl) rfl ?_
  refine ev_aload_n (ea_at dt_X2_copyFrom 21 rfl) rfl ?_
  refine ev_getI (ea_at dt_X2_copyFrom 22 rfl) fl_X2_27 hp1.1 rfl ?_
  refine ev_i (fun x11 => ?_)
  refine ev_putI (ea_at dt_X2_copyFrom 23 rfl) fl_X2_27 fp_2_5 ha.1 rfl ?_
  refine ev_m (fun m12 => ?_)
  refine ev_aload_n (ea_at dt_X2_copyFrom 24 rfl) rfl ?_
  refine ev_aload_n (ea_at dt_X2_copyFrom 25 rfl) rfl ?_
  refine ev_getI (ea_at dt_X2_copyFrom 26 rfl) fl_X2_30 hp1.1 rfl ?_
  refine ev_i (fun x13 => ?_)
  refine ev_putI (ea_at dt_X2_copyFrom 27 rfl) fl_X2_30 fp_2_6 ha.1 rfl ?_
  refine ev_m (fun m14 => ?_)
  refine ev_aload_n (ea_at dt_X2_copyFrom 28 rfl) rfl ?_
  refine ev_aload_n (ea_at dt_X2_copyFrom 29 rfl) rfl ?_
  refine ev_getI (ea_at dt_X2_copyFrom 30 rfl) fl_X2_33 hp1.1 rfl ?_
  refine ev_i (fun x15 => ?_)
  refine ev_putI (ea_at dt_X2_copyFrom 31 rfl) fl_X2_33 fp_2_7 ha.1 rfl ?_
  refine ev_m (fun m16 => ?_)
  refine ev_aload_n (ea_at dt_X2_copyFrom 32 rfl) rfl ?_
  refine ev_aload_n (ea_at dt_X2_copyFrom 33 rfl) rfl ?_
  refine ev_getI (ea_at dt_X2_copyFrom 34 rfl) fl_X2_36 hp1.1 rfl ?_
  refine ev_i (fun x17 => ?_)
  refine ev_putI (ea_at dt_X2_copyFrom 35 rfl) fl_X2_36 fp_2_8 ha.1 rfl ?_
  refine ev_m (fun m18 => ?_)
  refine ev_aload_n (ea_at dt_X2_copyFrom 36 rfl) rfl ?_
  refine ev_getR (ea_at dt_X2_copyFrom 37 rfl) fl_X2_39 hp1.1 rfl ?_
  refine ev_iconst (ea_at dt_X2_copyFrom 38 rfl) ic_0 ?_
  refine ev_aload_n (ea_at dt_X2_copyFrom 39 rfl) rfl ?_
  refine ev_getR (ea_at dt_X2_copyFrom 40 rfl) fl_X2_39 ha.1 rfl ?_
  refine ev_iconst (ea_at dt_X2_copyFrom 41 rfl) ic_0 ?_
  refine ev_bipush (ea_at dt_X2_copyFrom 42 rfl) bp_13 ?_
  refine ev_copyC (sp' := 0) (dp' := 0) (len' := 13) (ea_at dt_X2_copyFrom 43 rfl) ml_X2_69 ea_copyW hp1.2.1 ha.2.1 (by decide) (by decide) (by decide) (by decide) (by decide) ⟨by decide, by decide⟩ ⟨by decide, by decide⟩ ?_
  refine ev_m (fun m19 => ?_)
  refine ev_aload_n (ea_at dt_X2_copyFrom 44 rfl) rfl ?_
  refine ev_getR (ea_at dt_X2_copyFrom 45 rfl) fl_X2_43 hp1.1 rfl ?_
  refine ev_iconst (ea_at dt_X2_copyFrom 46 rfl) ic_0 ?_
  refine ev_aload_n (ea_at dt_X2_copyFrom 47 rfl) rfl ?_
  refine ev_getR (ea_at dt_X2_copyFrom 48 rfl) fl_X2_43 ha.1 rfl ?_
  refine ev_iconst (ea_at dt_X2_copyFrom 49 rfl) ic_0 ?_
  refine ev_bipush (ea_at dt_X2_copyFrom 50 rfl) bp_6 ?_
  refine ev_copyC (sp' := 0) (dp' := 0) (len' := 6) (ea_at dt_X2_copyFrom 51 rfl) ml_X2_69 ea_copyW hp1.2.2.1 ha.2.2.1 (by decide) (by decide) (by decide) (by decide) (by decide) ⟨by decide, by decide⟩ ⟨by decide, by decide⟩ ?_
  refine ev_m (fun m20 => ?_)
  refine ev_aload_n (ea_at dt_X2_copyFrom 52 rfl) rfl ?_
  refine ev_getR (ea_at dt_X2_copyFrom 53 rfl) fl_X2_46 hp1.1 rfl ?_
  refine ev_iconst (ea_at dt_X2_copyFrom 54 rfl) ic_0 ?_
  refine ev_aload_n (ea_at dt_X2_copyFrom 55 rfl) rfl ?_
  refine ev_getR (ea_at dt_X2_copyFrom 56 rfl) fl_X2_46 ha.1 rfl ?_
  refine ev_iconst (ea_at dt_X2_copyFrom 57 rfl) ic_0 ?_
  refine ev_bipush (ea_at dt_X2_copyFrom 58 rfl) bp_6 ?_
  refine ev_copyC (sp' := 0) (dp' := 0) (len' := 6) (ea_at dt_X2_copyFrom 59 rfl) ml_X2_69 ea_copyW hp1.2.2.2.1 ha.2.2.2.1 (by decide) (by decide) (by decide) (by decide) (by decide) ⟨by decide, by decide⟩ ⟨by decide, by decide⟩ ?_
  refine ev_m (fun m21 => ?_)
  refine ev_aload_n (ea_at dt_X2_copyFrom 60 rfl) rfl ?_
  refine ev_getR (ea_at dt_X2_copyFrom 61 rfl) fl_X2_49 hp1.1 rfl ?_
  refine ev_iconst (ea_at dt_X2_copyFrom 62 rfl) ic_0 ?_
  refine ev_aload_n (ea_at dt_X2_copyFrom 63 rfl) rfl ?_
  refine ev_getR (ea_at dt_X2_copyFrom 64 rfl) fl_X2_49 ha.1 rfl ?_
  refine ev_iconst (ea_at dt_X2_copyFrom 65 rfl) ic_0 ?_
  refine ev_bipush (ea_at dt_X2_copyFrom 66 rfl) bp_6 ?_
  refine ev_copyC (sp' := 0) (dp' := 0) (len' := 6) (ea_at dt_X2_copyFrom 67 rfl) ml_X2_69 ea_copyW hp1.2.2.2.2.1 ha.2.2.2.2.1 (by decide) (by decide) (by decide) (by decide) (by decide) ⟨by decide, by decide⟩ ⟨by decide, by decide⟩ ?_
  refine ev_m (fun m22 => ?_)
  refine ev_aload_n (ea_at dt_X2_copyFrom 68 rfl) rfl ?_
  refine ev_getR (ea_at dt_X2_copyFrom 69 rfl) fl_X2_52 hp1.1 rfl ?_
  refine ev_iconst (ea_at dt_X2_copyFrom 70 rfl) ic_0 ?_
  refine ev_aload_n (ea_at dt_X2_copyFrom 71 rfl) rfl ?_
  refine ev_getR (ea_at dt_X2_copyFrom 72 rfl) fl_X2_52 ha.1 rfl ?_
  refine ev_iconst (ea_at dt_X2_copyFrom 73 rfl) ic_0 ?_
  refine ev_bipush (ea_at dt_X2_copyFrom 74 rfl) bp_6 ?_
  refine ev_copyC (sp' := 0) (dp' := 0) (len' := 6) (ea_at dt_X2_copyFrom 75 rfl) ml_X2_69 ea_copyW hp1.2.2.2.2.2.1 ha.2.2.2.2.2.1 (by decide) (by decide) (by decide) (by decide) (by decide) ⟨by decide, by decide⟩ ⟨by decide, by decide⟩ ?_
  refine ev_m (fun m23 => ?_)
  refine ev_aload_n (ea_at dt_X2_copyFrom 76 rfl) rfl ?_
  refine ev_getR (ea_at dt_X2_copyFrom 77 rfl) fl_X2_58 ha.1 rfl ?_
  refine ev_aload_n (ea_at dt_X2_copyFrom 78 rfl) rfl ?_
  refine ev_getR (ea_at dt_X2_copyFrom 79 rfl) fl_X2_58 hp1.1 rfl ?_
  refine ev_clU (F1 := F_X1_copyFrom) (fun rY mY hY => ea_runV (As := [.ref (p1 + 6)]) (ea_at dt_X2_copyFrom 80 rfl) ml_X2_75 mv_X1_copyFrom (ok_X1_copyFrom G (a + 6) (p1 + 6) m23 ha.2.2.2.2.2.2.1 hp1.2.2.2.2.2.2.1 rY mY hY) ha.2.2.2.2.2.2.1.1 rfl rfl rfl (Nat.le_of_ble_eq_true rfl) rfl) rfl (fun r25 m24 => ?_)
  refine ev_aload_n (ea_at dt_X2_copyFrom 81 rfl) rfl ?_
  refine ev_getR (ea_at dt_X2_copyFrom 82 rfl) fl_X2_65 ha.1 rfl ?_
  refine ev_aload_n (ea_at dt_X2_copyFrom 83 rfl) rfl ?_
  refine ev_getR (ea_at dt_X2_copyFrom 84 rfl) fl_X2_65 hp1.1 rfl ?_
  refine ev_clU (F1 := F_X6_copyFrom) (fun rY mY hY => ea_runV (As := [.ref (p1 + 12)]) (ea_at dt_X2_copyFrom 85 rfl) ml_X2_79 mv_X6_copyFrom (ok_X6_copyFrom G (a + 12) (p1 + 12) m24 ha.2.2.2.2.2.2.2 hp1.2.2.2.2.2.2.2 rY mY hY) ha.2.2.2.2.2.2.2.1 rfl rfl rfl (Nat.le_of_ble_eq_true rfl) rfl) rfl (fun r27 m26 => ?_)
  exact ev_vret (ea_at dt_X2_copyFrom 86 rfl) rfl ⟨by decide, by decide⟩ (fun h => ⟨0, hR _ h⟩)
def F_X9_kindAt : ea_F := (ea_rm 8 0 0, cX9_kindAt, RX9, some .int, 2, [], 0, 0)
def D_X9_kindAt : List (Nat × Instr × Nat) := [(0, .iload_n 1, 1), (1, .aload_n 0, 1), (2, .getfield 9, 3), (5, .if_icmp .lt 5, 3), (8, .iconst 0, 1), (9, .ireturn, 1), (10, .aload_n 0, 1), (11, .getfield 30, 3), (14, .iload_n 1, 1), (15, .iaload, 1), (16, .bipush 97, 2), (18, .if_icmp .lt 16, 3), (21, .aload_n 0, 1), (22, .getfield 30, 3), (25, .iload_n 1, 1), (26, .iaload, 1), (27, .bipush 122, 2), (29, .if_icmp .gt 5, 3), (32, .iconst 1, 1), (33, .ireturn, 1), (34, .aload_n 0, 1), (35, .getfield 30, 3), (38, .iload_n 1, 1), (39, .iaload, 1), (40, .bipush 48, 2), (42, .if_icmp .lt 18, 3), (45, .aload_n 0, 1), (46, .getfield 30, 3), (49, .iload_n 1, 1), (50, .iaload, 1), (51, .bipush 57, 2), (53, .if_icmp .gt 7, 3), (56, .iconst 2, 1), (57, .goto 4, 3), (60, .iconst 3, 1), (61, .ireturn, 1)]
theorem dt_X9_kindAt : ∀ q ∈ D_X9_kindAt, decode cX9_kindAt q.1 = .ok q.2 := by decide +kernel
theorem mv_X9_kindAt : ea_MV yX9_kindAt (F_X9_kindAt) 1 := ⟨⟨List.mem_append_right _ (List.mem_of_getElem? (i := 7) (by decide +kernel)), List.mem_append_right _ (List.mem_of_getElem? (i := 664) (by decide +kernel)), ⟨by decide, by decide⟩, by decide +kernel⟩, List.mem_append_right _ (List.mem_of_getElem? (i := 663) (by decide +kernel)), List.mem_append_left _ (List.mem_of_getElem? (i := 8) (by decide +kernel))⟩
def f_X9_kindAt_j34 (a : Nat) (p1 : Int32) (m3 : ea_M) : Option (Int32 × ea_M) :=
  ea_g p1 400 (ea_bd (m3 1 (Int32.toNatClampNeg p1)) fun x4 =>
  if x4 < 48 then
  some (3, m3)
  else
  ea_g p1 400 (ea_bd (m3 1 (Int32.toNatClampNeg p1)) fun x5 =>
  if 57 < x5 then
  some (3, m3)
  else
  some (2, m3)))
def f_X9_kindAt (a : Nat) (p1 : Int32) (m : ea_M) : Option (Int32 × ea_M) :=
  ea_bd (m a 1) fun x1 =>
  if p1 < x1 then
  ea_g p1 400 (ea_bd (m 1 (Int32.toNatClampNeg p1)) fun x2 =>
  if x2 < 97 then
  f_X9_kindAt_j34 a p1 m
  else
  ea_g p1 400 (ea_bd (m 1 (Int32.toNatClampNeg p1)) fun x6 =>
  if 122 < x6 then
  f_X9_kindAt_j34 a p1 m
  else
  some (1, m)))
  else
  some (0, m)
set_option maxHeartbeats 300000 in
theorem jn_X9_kindAt_34 (G : ea_G) {res : ea_O}  (a : Nat) (p1 : Int32) (m3 : ea_M) (ha : ea_isReader a) {Φ : (Int32 × ea_M) → Prop} (hR : ∀ t : Int32 × ea_M, Φ t → res = (0, t)) : ea_E G F_X9_kindAt res 34 [some (.ref a), some (.int p1)] [] m3 0 0 (f_X9_kindAt_j34 a p1 m3) Φ := by
  unfold f_X9_kindAt_j34
  refine ev_aload_n (ea_at dt_X9_kindAt 20 rfl) rfl ?_
  refine ev_getR (ea_at dt_X9_kindAt 21 rfl) fl_X9_30 ha rfl ?_
  refine ev_iload_n (ea_at dt_X9_kindAt 22 rfl) rfl ?_
  refine ev_iaload (ea_at dt_X9_kindAt 23 rfl) sh_1 (by decide) ?_
  refine ev_i (fun x4 => ?_)
  refine ev_bipush (ea_at dt_X9_kindAt 24 rfl) bp_48 ?_
  refine ev_icmp_lt (tgt := 60) (ea_at dt_X9_kindAt 25 rfl) rfl (fun _ => ?_) (fun _ => ?_)
  · refine ev_iconst (ea_at dt_X9_kindAt 34 rfl) ic_3 ?_
    exact ev_iret (ea_at dt_X9_kindAt 35 rfl) rfl ⟨by decide, by decide⟩ (fun h => hR _ h)
  · refine ev_aload_n (ea_at dt_X9_kindAt 26 rfl) rfl ?_
    refine ev_getR (ea_at dt_X9_kindAt 27 rfl) fl_X9_30 ha rfl ?_
    refine ev_iload_n (ea_at dt_X9_kindAt 28 rfl) rfl ?_
    refine ev_iaload (ea_at dt_X9_kindAt 29 rfl) sh_1 (by decide) ?_
    refine ev_i (fun x5 => ?_)
    refine ev_bipush (ea_at dt_X9_kindAt 30 rfl) bp_57 ?_
    refine ev_icmp_gt (tgt := 60) (ea_at dt_X9_kindAt 31 rfl) rfl (fun _ => ?_) (fun _ => ?_)
    · refine ev_iconst (ea_at dt_X9_kindAt 34 rfl) ic_3 ?_
      exact ev_iret (ea_at dt_X9_kindAt 35 rfl) rfl ⟨by decide, by decide⟩ (fun h => hR _ h)
    · refine ev_iconst (ea_at dt_X9_kindAt 32 rfl) ic_2 ?_
      refine ev_goto (tgt := 61) (ea_at dt_X9_kindAt 33 rfl) rfl ?_
      exact ev_iret (ea_at dt_X9_kindAt 35 rfl) rfl ⟨by decide, by decide⟩ (fun h => hR _ h)
set_option maxHeartbeats 300000 in
theorem ok_X9_kindAt (G : ea_G) (a : Nat) (p1 : Int32) (m : ea_M) (ha : ea_isReader a) (rZ : Int32) (mZ : ea_M) (hZ : f_X9_kindAt a p1 m = some (rZ, mZ)) : ea_Met G yX9_kindAt F_X9_kindAt [.ref a, .int p1] m (0, rZ, mZ) := by
  refine ea_met (F := F_X9_kindAt) (by decide +kernel) rfl rfl (Nat.le_of_ble_eq_true rfl) (by simp only [List.mem_cons, List.not_mem_nil, or_false]; intro v hv; rcases hv with rfl | rfl <;> rfl) ((?_ : ea_E G F_X9_kindAt (0, rZ, mZ) 0 [some (.ref a), some (.int p1)] [] m 0 0 (f_X9_kindAt a p1 m) (fun t => t = (rZ, mZ))) (rZ, mZ) hZ rfl)
  have hR : ∀ t : Int32 × ea_M, t = (rZ, mZ) → ((0, rZ, mZ) : ea_O) = (0, t) := fun t h => by rw [h]
  unfold f_X9_kindAt
  refine ev_iload_n (ea_at dt_X9_kindAt 0 rfl) rfl ?_
  refine ev_aload_n (ea_at dt_X9_kindAt 1 rfl) rfl ?_
  refine ev_getI (ea_at dt_X9_kindAt 2 rfl) fl_X9_9 ha rfl ?_
  refine ev_i (fun x1 => ?_)
  refine ev_icmp_lt (tgt := 10) (ea_at dt_X9_kindAt 3 rfl) rfl (fun _ => ?_) (fun _ => ?_)
  · refine ev_aload_n (ea_at dt_X9_kindAt 6 rfl) rfl ?_
    refine ev_getR (ea_at dt_X9_kindAt 7 rfl) fl_X9_30 ha rfl ?_
    refine ev_iload_n (ea_at dt_X9_kindAt 8 rfl) rfl ?_
    refine ev_iaload (ea_at dt_X9_kindAt 9 rfl) sh_1 (by decide) ?_
    refine ev_i (fun x2 => ?_)
    refine ev_bipush (ea_at dt_X9_kindAt 10 rfl) bp_97 ?_
    refine ev_icmp_lt (tgt := 34) (ea_at dt_X9_kindAt 11 rfl) rfl (fun _ => ?_) (fun _ => ?_)
    · exact ev_drop (l' := [some (.ref a), some (.int p1)]) ⟨Or.inr rfl, Or.inr rfl, trivial⟩ (jn_X9_kindAt_34 G a p1 m ha hR)
    · refine ev_aload_n (ea_at dt_X9_kindAt 12 rfl) rfl ?_
      refine ev_getR (ea_at dt_X9_kindAt 13 rfl) fl_X9_30 ha rfl ?_
      refine ev_iload_n (ea_at dt_X9_kindAt 14 rfl) rfl ?_
      refine ev_iaload (ea_at dt_X9_kindAt 15 rfl) sh_1 (by decide) ?_
      refine ev_i (fun x6 => ?_)
      refine ev_bipush (ea_at dt_X9_kindAt 16 rfl) bp_122 ?_
      refine ev_icmp_gt (tgt := 34) (ea_at dt_X9_kindAt 17 rfl) rfl (fun _ => ?_) (fun _ => ?_)
      · exact ev_drop (l' := [some (.ref a), some (.int p1)]) ⟨Or.inr rfl, Or.inr rfl, trivial⟩ (jn_X9_kindAt_34 G a p1 m ha hR)
      · refine ev_iconst (ea_at dt_X9_kindAt 18 rfl) ic_1 ?_
        exact ev_iret (ea_at dt_X9_kindAt 19 rfl) rfl ⟨by decide, by decide⟩ (fun h => hR _ h)
  · refine ev_iconst (ea_at dt_X9_kindAt 4 rfl) ic_0 ?_
    exact ev_iret (ea_at dt_X9_kindAt 5 rfl) rfl ⟨by decide, by decide⟩ (fun h => hR _ h)
def F_X9_step : ea_F := (ea_rm 9 0 0, cX9_step, RX9, none, 1, [], 0, 0)
def D_X9_step : List (Nat × Instr × Nat) := [(0, .aload_n 0, 1), (1, .aload_n 0, 1), (2, .getfield 21, 3), (5, .putfield 18, 3), (8, .aload_n 0, 1), (9, .getfield 18, 3), (12, .aload_n 0, 1), (13, .getfield 9, 3), (16, .if_icmp .ge 30, 3), (19, .aload_n 0, 1), (20, .getfield 30, 3), (23, .aload_n 0, 1), (24, .getfield 18, 3), (27, .iaload, 1), (28, .bipush 32, 2), (30, .if_icmp .ne 16, 3), (33, .aload_n 0, 1), (34, .dup, 1), (35, .getfield 18, 3), (38, .iconst 1, 1), (39, .iadd, 1), (40, .putfield 18, 3), (43, .goto (-35), 3), (46, .aload_n 0, 1), (47, .aload_n 0, 1), (48, .getfield 18, 3), (51, .putfield 21, 3), (54, .aload_n 0, 1), (55, .aload_n 0, 1), (56, .aload_n 0, 1), (57, .getfield 18, 3), (60, .invokevirtual 46, 3), (63, .putfield 15, 3), (66, .aload_n 0, 1), (67, .getfield 15, 3), (70, .iconst 3, 1), (71, .if_icmp .ne 16, 3), (74, .aload_n 0, 1), (75, .dup, 1), (76, .getfield 21, 3), (79, .iconst 1, 1), (80, .iadd, 1), (81, .putfield 21, 3), (84, .goto 49, 3), (87, .aload_n 0, 1), (88, .getfield 15, 3), (91, .ifCond .eq 42, 3), (94, .aload_n 0, 1), (95, .getfield 21, 3), (98, .aload_n 0, 1), (99, .getfield 9, 3), (102, .if_icmp .ge 31, 3), (105, .aload_n 0, 1), (106, .aload_n 0, 1), (107, .getfield 21, 3), (110, .invokevirtual 46, 3), (113, .aload_n 0, 1), (114, .getfield 15, 3), (117, .if_icmp .ne 16, 3), (120, .aload_n 0, 1), (121, .dup, 1), (122, .getfield 21, 3), (125, .iconst 1, 1), (126, .iadd, 1), (127, .putfield 21, 3), (130, .goto (-36), 3), (133, .return_, 1)]
theorem dt_X9_step : ∀ q ∈ D_X9_step, decode cX9_step q.1 = .ok q.2 := by decide +kernel
theorem mv_X9_step : ea_MV yX9_step (F_X9_step) 0 := ⟨⟨List.mem_append_right _ (List.mem_of_getElem? (i := 7) (by decide +kernel)), List.mem_append_right _ (List.mem_of_getElem? (i := 660) (by decide +kernel)), ⟨by decide, by decide⟩, by decide +kernel⟩, List.mem_append_right _ (List.mem_of_getElem? (i := 658) (by decide +kernel)), List.mem_append_right _ (List.mem_of_getElem? (i := 659) (by decide +kernel))⟩
def f_X9_step_s8 (a : Nat)  (s8 : ea_M) : Option ((ea_M) ⊕ (ea_M)) :=
  ea_bd (s8 a 3) fun x3 =>
  ea_bd (s8 a 1) fun x4 =>
  if x4 ≤ x3 then
  some (.inr s8)
  else
  ea_bd (s8 a 3) fun x5 =>
  ea_g x5 400 (ea_bd (s8 1 (Int32.toNatClampNeg x5)) fun x6 =>
  if x6 = 32 then
  ea_bd (s8 a 3) fun x7 =>
  ea_bd (ea_st s8 a 3 (x7 + 1)) fun m8 =>
  some (.inl m8)
  else
  some (.inr s8))
def f_X9_step_s94 (a : Nat)  (s94 : ea_M) : Option ((ea_M) ⊕ (ea_M)) :=
  ea_bd (s94 a 4) fun x19 =>
  ea_bd (s94 a 1) fun x20 =>
  if x20 ≤ x19 then
  some (.inr s94)
  else
  ea_bd (s94 a 4) fun x21 =>
  ea_cl (f_X9_kindAt a x21 s94) fun r23 m22 =>
  ea_bd (m22 a 2) fun x24 =>
  if r23 = x24 then
  ea_bd (m22 a 4) fun x25 =>
  ea_bd (ea_st m22 a 4 (x25 + 1)) fun m26 =>
  some (.inl m26)
  else
  some (.inr m22)
def f_X9_step (a : Nat) (m : ea_M) : Option (Int32 × ea_M) :=
  ea_bd (m a 4) fun x1 =>
  ea_bd (ea_st m a 3 x1) fun m2 =>
  (ea_loop (f_X9_step_s8 a) ea_fuel m2).bind (fun x8s =>
  ea_bd (x8s a 3) fun x9 =>
  ea_bd (ea_st x8s a 4 x9) fun m10 =>
  ea_bd (m10 a 3) fun x11 =>
  ea_cl (f_X9_kindAt a x11 m10) fun r13 m12 =>
  ea_bd (ea_st m12 a 2 r13) fun m14 =>
  ea_bd (m14 a 2) fun x15 =>
  if x15 = 3 then
  ea_bd (m14 a 4) fun x16 =>
  ea_bd (ea_st m14 a 4 (x16 + 1)) fun m17 =>
  some (0, m17)
  else
  ea_bd (m14 a 2) fun x18 =>
  if x18 = 0 then
  some (0, m14)
  else
  (ea_loop (f_X9_step_s94 a) ea_fuel m14).bind (fun x94s =>
  some (0, x94s)))
set_option maxHeartbeats 300000 in
theorem lp_X9_step_8 (G : ea_G) {res : ea_O}  (a : Nat) (ha : ea_isReader a) {Ψ : ea_M → Prop} (hX : ∀ x8s : ea_M, Ψ x8s → ea_Ev G F_X9_step res 46 [some (.ref a)] [] x8s 0 0) : ∀ (f : Nat) (s8 : ea_M), ea_E G F_X9_step res 8 [some (.ref a)] [] s8 0 0 (ea_loop (f_X9_step_s8 a) f s8) Ψ := by
  refine ev_loop (G := G) (F := F_X9_step) (res := res) (pc := 8) (st := []) (k := 0) (n := 0) (step := (f_X9_step_s8 a)) (Ψ := Ψ) (fun (s8 : ea_M) => [some (.ref a)]) (fun (s8 : ea_M) => s8) (fun s8 => ?_)
  have hC : ∀ s8 : ea_M, (Sum.elim (fun s8 : ea_M => ea_Ev G F_X9_step res 8 [some (.ref a)] [] s8 0 0) Ψ) (.inl s8) → ea_Ev G F_X9_step res 8 [some (.ref a)] [] s8 0 0 := fun _ h => h
  have hX : ∀ x8s : ea_M, (Sum.elim (fun s8 : ea_M => ea_Ev G F_X9_step res 8 [some (.ref a)] [] s8 0 0) Ψ) (.inr x8s) → ea_Ev G F_X9_step res 46 [some (.ref a)] [] x8s 0 0 := hX
  unfold f_X9_step_s8
  refine ev_aload_n (ea_at dt_X9_step 4 rfl) rfl ?_
  refine ev_getI (ea_at dt_X9_step 5 rfl) fl_X9_18 ha rfl ?_
  refine ev_i (fun x3 => ?_)
  refine ev_aload_n (ea_at dt_X9_step 6 rfl) rfl ?_
  refine ev_getI (ea_at dt_X9_step 7 rfl) fl_X9_9 ha rfl ?_
  refine ev_i (fun x4 => ?_)
  refine ev_icmp_ge (tgt := 46) (ea_at dt_X9_step 8 rfl) rfl (fun _ => ?_) (fun _ => ?_)
  · exact ev_leaf (fun h => ea_drop (l' := [some (.ref a)]) ⟨Or.inr rfl, trivial⟩ (hX s8 h))
  · refine ev_aload_n (ea_at dt_X9_step 9 rfl) rfl ?_
    refine ev_getR (ea_at dt_X9_step 10 rfl) fl_X9_30 ha rfl ?_
    refine ev_aload_n (ea_at dt_X9_step 11 rfl) rfl ?_
    refine ev_getI (ea_at dt_X9_step 12 rfl) fl_X9_18 ha rfl ?_
    refine ev_i (fun x5 => ?_)
    refine ev_iaload (ea_at dt_X9_step 13 rfl) sh_1 (by decide) ?_
    refine ev_i (fun x6 => ?_)
    refine ev_bipush (ea_at dt_X9_step 14 rfl) bp_32 ?_
    refine ev_icmp_ne (tgt := 46) (ea_at dt_X9_step 15 rfl) rfl (fun _ => ?_) (fun _ => ?_)
    · refine ev_aload_n (ea_at dt_X9_step 16 rfl) rfl ?_
      refine ev_dup (ea_at dt_X9_step 17 rfl) rfl ?_
      refine ev_getI (ea_at dt_X9_step 18 rfl) fl_X9_18 ha rfl ?_
      refine ev_i (fun x7 => ?_)
      refine ev_iconst (ea_at dt_X9_step 19 rfl) ic_1 ?_
      refine ev_iadd (ea_at dt_X9_step 20 rfl) ?_
      refine ev_putI (ea_at dt_X9_step 21 rfl) fl_X9_18 fp_9_3 ha rfl ?_
      refine ev_m (fun m8 => ?_)
      refine ev_goto (tgt := 8) (ea_at dt_X9_step 22 rfl) rfl ?_
      exact ev_leaf (fun h => ea_drop (l' := [some (.ref a)]) ⟨Or.inr rfl, trivial⟩ (hC m8 h))
    · exact ev_leaf (fun h => ea_drop (l' := [some (.ref a)]) ⟨Or.inr rfl, trivial⟩ (hX s8 h))
set_option maxHeartbeats 300000 in
theorem lp_X9_step_94 (G : ea_G) {res : ea_O}  (a : Nat) (ha : ea_isReader a) {Ψ : ea_M → Prop} (hX : ∀ x94s : ea_M, Ψ x94s → ea_Ev G F_X9_step res 133 [none] [] x94s 0 0) : ∀ (f : Nat) (s94 : ea_M), ea_E G F_X9_step res 94 [some (.ref a)] [] s94 0 0 (ea_loop (f_X9_step_s94 a) f s94) Ψ := by
  refine ev_loop (G := G) (F := F_X9_step) (res := res) (pc := 94) (st := []) (k := 0) (n := 0) (step := (f_X9_step_s94 a)) (Ψ := Ψ) (fun (s94 : ea_M) => [some (.ref a)]) (fun (s94 : ea_M) => s94) (fun s94 => ?_)
  have hC : ∀ s94 : ea_M, (Sum.elim (fun s94 : ea_M => ea_Ev G F_X9_step res 94 [some (.ref a)] [] s94 0 0) Ψ) (.inl s94) → ea_Ev G F_X9_step res 94 [some (.ref a)] [] s94 0 0 := fun _ h => h
  have hX : ∀ x94s : ea_M, (Sum.elim (fun s94 : ea_M => ea_Ev G F_X9_step res 94 [some (.ref a)] [] s94 0 0) Ψ) (.inr x94s) → ea_Ev G F_X9_step res 133 [none] [] x94s 0 0 := hX
  unfold f_X9_step_s94
  refine ev_aload_n (ea_at dt_X9_step 47 rfl) rfl ?_
  refine ev_getI (ea_at dt_X9_step 48 rfl) fl_X9_21 ha rfl ?_
  refine ev_i (fun x19 => ?_)
  refine ev_aload_n (ea_at dt_X9_step 49 rfl) rfl ?_
  refine ev_getI (ea_at dt_X9_step 50 rfl) fl_X9_9 ha rfl ?_
  refine ev_i (fun x20 => ?_)
  refine ev_icmp_ge (tgt := 133) (ea_at dt_X9_step 51 rfl) rfl (fun _ => ?_) (fun _ => ?_)
  · exact ev_leaf (fun h => ea_drop (l' := [none]) ⟨Or.inl rfl, trivial⟩ (hX s94 h))
  · refine ev_aload_n (ea_at dt_X9_step 52 rfl) rfl ?_
    refine ev_aload_n (ea_at dt_X9_step 53 rfl) rfl ?_
    refine ev_getI (ea_at dt_X9_step 54 rfl) fl_X9_21 ha rfl ?_
    refine ev_i (fun x21 => ?_)
    refine ev_clI (F1 := F_X9_kindAt) (fun rY mY hY => ea_runV (As := [.int x21]) (ea_at dt_X9_step 55 rfl) ml_X9_46 mv_X9_kindAt (ok_X9_kindAt G a x21 s94 ha rY mY hY) ha rfl rfl rfl (Nat.le_of_ble_eq_true rfl) rfl) rfl (fun r23 m22 => ?_)
    refine ev_aload_n (ea_at dt_X9_step 56 rfl) rfl ?_
    refine ev_getI (ea_at dt_X9_step 57 rfl) fl_X9_15 ha rfl ?_
    refine ev_i (fun x24 => ?_)
    refine ev_icmp_ne (tgt := 133) (ea_at dt_X9_step 58 rfl) rfl (fun _ => ?_) (fun _ => ?_)
    · refine ev_aload_n (ea_at dt_X9_step 59 rfl) rfl ?_
      refine ev_dup (ea_at dt_X9_step 60 rfl) rfl ?_
      refine ev_getI (ea_at dt_X9_step 61 rfl) fl_X9_21 ha rfl ?_
      refine ev_i (fun x25 => ?_)
      refine ev_iconst (ea_at dt_X9_step 62 rfl) ic_1 ?_
      refine ev_iadd (ea_at dt_X9_step 63 rfl) ?_
      refine ev_putI (ea_at dt_X9_step 64 rfl) fl_X9_21 fp_9_4 ha rfl ?_
      refine ev_m (fun m26 => ?_)
      refine ev_goto (tgt := 94) (ea_at dt_X9_step 65 rfl) rfl ?_
      exact ev_leaf (fun h => ea_drop (l' := [some (.ref a)]) ⟨Or.inr rfl, trivial⟩ (hC m26 h))
    · exact ev_leaf (fun h => ea_drop (l' := [none]) ⟨Or.inl rfl, trivial⟩ (hX m22 h))
set_option maxHeartbeats 300000 in
theorem ok_X9_step (G : ea_G) (a : Nat) (m : ea_M) (ha : ea_isReader a) (rZ : Int32) (mZ : ea_M) (hZ : f_X9_step a m = some (rZ, mZ)) : ea_Met G yX9_step F_X9_step [.ref a] m (0, rZ, mZ) := by
  refine ea_met (F := F_X9_step) (by decide +kernel) rfl rfl (Nat.le_of_ble_eq_true rfl) (by simp only [List.mem_cons, List.not_mem_nil, or_false]; intro v hv; rcases hv with rfl <;> rfl) ((?_ : ea_E G F_X9_step (0, rZ, mZ) 0 [some (.ref a)] [] m 0 0 (f_X9_step a m) (fun t => t = (rZ, mZ))) (rZ, mZ) hZ rfl)
  have hR : ∀ t : Int32 × ea_M, t = (rZ, mZ) → ((0, rZ, mZ) : ea_O) = (0, t) := fun t h => by rw [h]
  unfold f_X9_step
  refine ev_aload_n (ea_at dt_X9_step 0 rfl) rfl ?_
  refine ev_aload_n (ea_at dt_X9_step 1 rfl) rfl ?_
  refine ev_getI (ea_at dt_X9_step 2 rfl) fl_X9_21 ha rfl ?_
  refine ev_i (fun x1 => ?_)
  refine ev_putI (ea_at dt_X9_step 3 rfl) fl_X9_18 fp_9_3 ha rfl ?_
  refine ev_m (fun m2 => ?_)
  refine ev_drop (l' := [some (.ref a)]) ⟨Or.inr rfl, trivial⟩ ?_
  refine ev_bind (lp_X9_step_8 G a ha  (fun x8s h => ?_) ea_fuel m2)
  obtain ⟨t1, e1, q1⟩ := h
  refine (?_ : ea_E G F_X9_step (0, rZ, mZ) 46 [some (.ref a)] [] x8s 0 0 _ (fun t => t = (rZ, mZ))) t1 e1 q1
  refine ev_aload_n (ea_at dt_X9_step 23 rfl) rfl ?_
  refine ev_aload_n (ea_at dt_X9_step 24 rfl) rfl ?_
  refine ev_getI (ea_at dt_X9_step 25 rfl) fl_X9_18 ha rfl ?_
  refine ev_i (fun x9 => ?_)
  refine ev_putI (ea_at dt_X9_step 26 rfl) fl_X9_21 fp_9_4 ha rfl ?_
  refine ev_m (fun m10 => ?_)
  refine ev_aload_n (ea_at dt_X9_step 27 rfl) rfl ?_
  refine ev_aload_n (ea_at dt_X9_step 28 rfl) rfl ?_
  refine ev_aload_n (ea_at dt_X9_step 29 rfl) rfl ?_
  refine ev_getI (ea_at dt_X9_step 30 rfl) fl_X9_18 ha rfl ?_
  refine ev_i (fun x11 => ?_)
  refine ev_clI (F1 := F_X9_kindAt) (fun rY mY hY => ea_runV (As := [.int x11]) (ea_at dt_X9_step 31 rfl) ml_X9_46 mv_X9_kindAt (ok_X9_kindAt G a x11 m10 ha rY mY hY) ha rfl rfl rfl (Nat.le_of_ble_eq_true rfl) rfl) rfl (fun r13 m12 => ?_)
  refine ev_putI (ea_at dt_X9_step 32 rfl) fl_X9_15 fp_9_2 ha rfl ?_
  refine ev_m (fun m14 => ?_)
  refine ev_aload_n (ea_at dt_X9_step 33 rfl) rfl ?_
  refine ev_getI (ea_at dt_X9_step 34 rfl) fl_X9_15 ha rfl ?_
  refine ev_i (fun x15 => ?_)
  refine ev_iconst (ea_at dt_X9_step 35 rfl) ic_3 ?_
  refine ev_icmp_ne (tgt := 87) (ea_at dt_X9_step 36 rfl) rfl (fun _ => ?_) (fun _ => ?_)
  · refine ev_aload_n (ea_at dt_X9_step 37 rfl) rfl ?_
    refine ev_dup (ea_at dt_X9_step 38 rfl) rfl ?_
    refine ev_getI (ea_at dt_X9_step 39 rfl) fl_X9_21 ha rfl ?_
    refine ev_i (fun x16 => ?_)
    refine ev_iconst (ea_at dt_X9_step 40 rfl) ic_1 ?_
    refine ev_iadd (ea_at dt_X9_step 41 rfl) ?_
    refine ev_putI (ea_at dt_X9_step 42 rfl) fl_X9_21 fp_9_4 ha rfl ?_
    refine ev_m (fun m17 => ?_)
    refine ev_goto (tgt := 133) (ea_at dt_X9_step 43 rfl) rfl ?_
    exact ev_vret (ea_at dt_X9_step 66 rfl) rfl ⟨by decide, by decide⟩ (fun h => ⟨0, hR _ h⟩)
  · refine ev_aload_n (ea_at dt_X9_step 44 rfl) rfl ?_
    refine ev_getI (ea_at dt_X9_step 45 rfl) fl_X9_15 ha rfl ?_
    refine ev_i (fun x18 => ?_)
    refine ev_if_eq (tgt := 133) (ea_at dt_X9_step 46 rfl) rfl (fun _ => ?_) (fun _ => ?_)
    · exact ev_vret (ea_at dt_X9_step 66 rfl) rfl ⟨by decide, by decide⟩ (fun h => ⟨0, hR _ h⟩)
    · refine ev_drop (l' := [some (.ref a)]) ⟨Or.inr rfl, trivial⟩ ?_
      refine ev_bind (lp_X9_step_94 G a ha  (fun x94s h => ?_) ea_fuel m14)
      obtain ⟨t1, e1, q1⟩ := h
      refine (?_ : ea_E G F_X9_step (0, rZ, mZ) 133 [none] [] x94s 0 0 _ (fun t => t = (rZ, mZ))) t1 e1 q1
      exact ev_vret (ea_at dt_X9_step 66 rfl) rfl ⟨by decide, by decide⟩ (fun h => ⟨0, hR _ h⟩)
def F_X9_open : ea_F := (ea_rm 10 0 0, cX9_open, RX9, none, 2, [], 0, 0)
def D_X9_open : List (Nat × Instr × Nat) := [(0, .aload_n 0, 1), (1, .iconst 0, 1), (2, .iload_n 1, 1), (3, .aload_n 0, 1), (4, .getfield 30, 3), (7, .arraylength, 1), (8, .invokestatic 34, 3), (11, .invokestatic 40, 3), (14, .putfield 9, 3), (17, .aload_n 0, 1), (18, .iconst 0, 1), (19, .putfield 21, 3), (22, .aload_n 0, 1), (23, .iconst (-1), 1), (24, .putfield 27, 3), (27, .aload_n 0, 1), (28, .invokevirtual 43, 3), (31, .return_, 1)]
theorem dt_X9_open : ∀ q ∈ D_X9_open, decode cX9_open q.1 = .ok q.2 := by decide +kernel
theorem mv_X9_open : ea_MV yX9_open (F_X9_open) 1 := ⟨⟨List.mem_append_right _ (List.mem_of_getElem? (i := 7) (by decide +kernel)), List.mem_append_right _ (List.mem_of_getElem? (i := 654) (by decide +kernel)), ⟨by decide, by decide⟩, by decide +kernel⟩, List.mem_append_right _ (List.mem_of_getElem? (i := 652) (by decide +kernel)), List.mem_append_right _ (List.mem_of_getElem? (i := 653) (by decide +kernel))⟩
def f_X9_open (a : Nat) (p1 : Int32) (m : ea_M) : Option (Int32 × ea_M) :=
  ea_bd (ea_min p1 400) fun x1 =>
  ea_bd (ea_max 0 x1) fun x2 =>
  ea_bd (ea_st m a 1 x2) fun m3 =>
  ea_bd (ea_st m3 a 4 0) fun m4 =>
  ea_bd (ea_st m4 a 6 (-1)) fun m5 =>
  ea_cl (f_X9_step a m5) fun r7 m6 =>
  some (0, m6)
set_option maxHeartbeats 300000 in
theorem ok_X9_open (G : ea_G) (a : Nat) (p1 : Int32) (m : ea_M) (ha : ea_isReader a) (rZ : Int32) (mZ : ea_M) (hZ : f_X9_open a p1 m = some (rZ, mZ)) : ea_Met G yX9_open F_X9_open [.ref a, .int p1] m (0, rZ, mZ) := by
  refine ea_met (F := F_X9_open) (by decide +kernel) rfl rfl (Nat.le_of_ble_eq_true rfl) (by simp only [List.mem_cons, List.not_mem_nil, or_false]; intro v hv; rcases hv with rfl | rfl <;> rfl) ((?_ : ea_E G F_X9_open (0, rZ, mZ) 0 [some (.ref a), some (.int p1)] [] m 0 0 (f_X9_open a p1 m) (fun t => t = (rZ, mZ))) (rZ, mZ) hZ rfl)
  have hR : ∀ t : Int32 × ea_M, t = (rZ, mZ) → ((0, rZ, mZ) : ea_O) = (0, t) := fun t h => by rw [h]
  unfold f_X9_open
  refine ev_aload_n (ea_at dt_X9_open 0 rfl) rfl ?_
  refine ev_iconst (ea_at dt_X9_open 1 rfl) ic_0 ?_
  refine ev_iload_n (ea_at dt_X9_open 2 rfl) rfl ?_
  refine ev_aload_n (ea_at dt_X9_open 3 rfl) rfl ?_
  refine ev_getR (ea_at dt_X9_open 4 rfl) fl_X9_30 ha rfl ?_
  refine ev_alen (ea_at dt_X9_open 5 rfl) sh_1 (by decide) (by decide) ol_400 ?_
  refine ev_mmin (ea_at dt_X9_open 6 rfl) ml_X9_34 ea_maW_min ⟨by decide, Nat.le_of_ble_eq_true rfl, by decide, by decide⟩ ?_
  refine ev_i (fun x1 => ?_)
  refine ev_mmax (ea_at dt_X9_open 7 rfl) ml_X9_40 ea_maW_max ⟨by decide, Nat.le_of_ble_eq_true rfl, by decide, by decide⟩ ?_
  refine ev_i (fun x2 => ?_)
  refine ev_putI (ea_at dt_X9_open 8 rfl) fl_X9_9 fp_9_1 ha rfl ?_
  refine ev_m (fun m3 => ?_)
  refine ev_aload_n (ea_at dt_X9_open 9 rfl) rfl ?_
  refine ev_iconst (ea_at dt_X9_open 10 rfl) ic_0 ?_
  refine ev_putI (ea_at dt_X9_open 11 rfl) fl_X9_21 fp_9_4 ha rfl ?_
  refine ev_m (fun m4 => ?_)
  refine ev_aload_n (ea_at dt_X9_open 12 rfl) rfl ?_
  refine ev_iconst (ea_at dt_X9_open 13 rfl) ic_m1 ?_
  refine ev_putI (ea_at dt_X9_open 14 rfl) fl_X9_27 fp_9_6 ha rfl ?_
  refine ev_m (fun m5 => ?_)
  refine ev_aload_n (ea_at dt_X9_open 15 rfl) rfl ?_
  refine ev_clU (F1 := F_X9_step) (fun rY mY hY => ea_runV (As := []) (ea_at dt_X9_open 16 rfl) ml_X9_43 mv_X9_step (ok_X9_step G a m5 ha rY mY hY) ha rfl rfl rfl (Nat.le_of_ble_eq_true rfl) rfl) rfl (fun r7 m6 => ?_)
  exact ev_vret (ea_at dt_X9_open 17 rfl) rfl ⟨by decide, by decide⟩ (fun h => ⟨0, hR _ h⟩)
def F_X9_sees : ea_F := (ea_rm 13 0 0, cX9_sees, RX9, some .boolean, 3, [], 0, 0)
def D_X9_sees : List (Nat × Instr × Nat) := [(0, .aload_n 0, 1), (1, .getfield 15, 3), (4, .iconst 1, 1), (5, .if_icmp .ne 19, 3), (8, .aload_n 0, 1), (9, .getfield 21, 3), (12, .aload_n 0, 1), (13, .getfield 18, 3), (16, .isub, 1), (17, .aload_n 1, 1), (18, .invokevirtual 50, 3), (21, .if_icmp .eq 5, 3), (24, .iconst 0, 1), (25, .ireturn, 1), (26, .iconst 0, 1), (27, .istore_n 2, 1), (28, .iload_n 2, 1), (29, .aload_n 1, 1), (30, .invokevirtual 50, 3), (33, .if_icmp .ge 30, 3), (36, .aload_n 0, 1), (37, .getfield 30, 3), (40, .aload_n 0, 1), (41, .getfield 18, 3), (44, .iload_n 2, 1), (45, .iadd, 1), (46, .iaload, 1), (47, .aload_n 1, 1), (48, .iload_n 2, 1), (49, .invokevirtual 55, 3), (52, .if_icmp .eq 5, 3), (55, .iconst 0, 1), (56, .ireturn, 1), (57, .iinc 2 1, 3), (60, .goto (-32), 3), (63, .iconst 1, 1), (64, .ireturn, 1)]
theorem dt_X9_sees : ∀ q ∈ D_X9_sees, decode cX9_sees q.1 = .ok q.2 := by decide +kernel
theorem mv_X9_sees : ea_MV yX9_sees (F_X9_sees) 1 := ⟨⟨List.mem_append_right _ (List.mem_of_getElem? (i := 7) (by decide +kernel)), List.mem_append_right _ (List.mem_of_getElem? (i := 673) (by decide +kernel)), ⟨by decide, by decide⟩, by decide +kernel⟩, List.mem_append_right _ (List.mem_of_getElem? (i := 671) (by decide +kernel)), List.mem_append_right _ (List.mem_of_getElem? (i := 672) (by decide +kernel))⟩
def f_X9_sees_s28 (a : Nat) (p1 : Nat)  (s28 : Int32 × ea_M) : Option ((Int32 × ea_M) ⊕ ((Int32 × ea_M) ⊕ (ea_M))) :=
  ea_cl (ea_slen p1 s28.2) fun r7 m6 =>
  if r7 ≤ s28.1 then
  some (.inr (.inr m6))
  else
  ea_bd (m6 a 3) fun x8 =>
  ea_g (x8 + s28.1) 400 (ea_bd (m6 1 (Int32.toNatClampNeg (x8 + s28.1))) fun x9 =>
  ea_cl (ea_schr p1 s28.1 m6) fun r11 m10 =>
  if x9 = r11 then
  some (.inl (s28.1 + 1, m10))
  else
  some (.inr (.inl (0, m10))))
def f_X9_sees (a : Nat) (p1 : Nat) (m : ea_M) : Option (Int32 × ea_M) :=
  ea_bd (m a 2) fun x1 =>
  if x1 = 1 then
  ea_bd (m a 4) fun x2 =>
  ea_bd (m a 3) fun x3 =>
  ea_cl (ea_slen p1 m) fun r5 m4 =>
  if (x2 - x3) = r5 then
  ea_sl (ea_loop (f_X9_sees_s28 a p1) ea_fuel (0, m4)) (fun t => some t) (fun x28s =>
  some (1, x28s))
  else
  some (0, m4)
  else
  some (0, m)
set_option maxHeartbeats 300000 in
theorem lp_X9_sees_28 (G : ea_G) {res : ea_O}  (a : Nat) (p1 : Nat) (ha : ea_isReader a) (hp1 : p1 < ea_str.length) {Ψ : ((Int32 × ea_M) ⊕ (ea_M)) → Prop} (hR : ∀ t : Int32 × ea_M, Ψ (.inl t) → res = (0, t)) (hX : ∀ x28s : ea_M, Ψ (.inr x28s) → ea_Ev G F_X9_sees res 63 [none, none, none] [] x28s 0 0) : ∀ (f : Nat) (s28 : Int32 × ea_M), ea_E G F_X9_sees res 28 [some (.ref a), some (.ref (1000 + p1)), some (.int s28.1)] [] s28.2 0 0 (ea_loop (f_X9_sees_s28 a p1) f s28) Ψ := by
  refine ev_loop (G := G) (F := F_X9_sees) (res := res) (pc := 28) (st := []) (k := 0) (n := 0) (step := (f_X9_sees_s28 a p1)) (Ψ := Ψ) (fun (s28 : Int32 × ea_M) => [some (.ref a), some (.ref (1000 + p1)), some (.int s28.1)]) (fun (s28 : Int32 × ea_M) => s28.2) (fun s28 => ?_)
  have hC : ∀ s28 : Int32 × ea_M, (Sum.elim (fun s28 : Int32 × ea_M => ea_Ev G F_X9_sees res 28 [some (.ref a), some (.ref (1000 + p1)), some (.int s28.1)] [] s28.2 0 0) Ψ) (.inl s28) → ea_Ev G F_X9_sees res 28 [some (.ref a), some (.ref (1000 + p1)), some (.int s28.1)] [] s28.2 0 0 := fun _ h => h
  have hR : ∀ t : Int32 × ea_M, (Sum.elim (fun s28 : Int32 × ea_M => ea_Ev G F_X9_sees res 28 [some (.ref a), some (.ref (1000 + p1)), some (.int s28.1)] [] s28.2 0 0) Ψ) (.inr (.inl t)) → res = (0, t) := hR
  have hX : ∀ x28s : ea_M, (Sum.elim (fun s28 : Int32 × ea_M => ea_Ev G F_X9_sees res 28 [some (.ref a), some (.ref (1000 + p1)), some (.int s28.1)] [] s28.2 0 0) Ψ) (.inr (.inr x28s)) → ea_Ev G F_X9_sees res 63 [none, none, none] [] x28s 0 0 := hX
  unfold f_X9_sees_s28
  refine ev_iload_n (ea_at dt_X9_sees 16 rfl) rfl ?_
  refine ev_aload_n (ea_at dt_X9_sees 17 rfl) rfl ?_
  refine ev_clI (F1 := F_J0_length_8abf5) (fun rY mY hY => ea_runVS (As := []) (ea_at dt_X9_sees 18 rfl) ml_X9_50 mv_J0_length_8abf5 (ok_ea_slen G p1 s28.2 hp1 rY mY hY) hp1 rfl rfl (Nat.le_of_ble_eq_true rfl) rfl) rfl (fun r7 m6 => ?_)
  refine ev_icmp_ge (tgt := 63) (ea_at dt_X9_sees 19 rfl) rfl (fun _ => ?_) (fun _ => ?_)
  · exact ev_leaf (fun h => ea_drop (l' := [none, none, none]) ⟨Or.inl rfl, Or.inl rfl, Or.inl rfl, trivial⟩ (hX m6 h))
  · refine ev_aload_n (ea_at dt_X9_sees 20 rfl) rfl ?_
    refine ev_getR (ea_at dt_X9_sees 21 rfl) fl_X9_30 ha rfl ?_
    refine ev_aload_n (ea_at dt_X9_sees 22 rfl) rfl ?_
    refine ev_getI (ea_at dt_X9_sees 23 rfl) fl_X9_18 ha rfl ?_
    refine ev_i (fun x8 => ?_)
    refine ev_iload_n (ea_at dt_X9_sees 24 rfl) rfl ?_
    refine ev_iadd (ea_at dt_X9_sees 25 rfl) ?_
    refine ev_iaload (ea_at dt_X9_sees 26 rfl) sh_1 (by decide) ?_
    refine ev_i (fun x9 => ?_)
    refine ev_aload_n (ea_at dt_X9_sees 27 rfl) rfl ?_
    refine ev_iload_n (ea_at dt_X9_sees 28 rfl) rfl ?_
    refine ev_clI (F1 := F_J0_charAt_5068e) (fun rY mY hY => ea_runVS (As := [.int s28.1]) (ea_at dt_X9_sees 29 rfl) ml_X9_55 mv_J0_charAt_5068e (ok_ea_schr G p1 s28.1 m6 hp1 rY mY hY) hp1 rfl rfl (Nat.le_of_ble_eq_true rfl) rfl) rfl (fun r11 m10 => ?_)
    refine ev_icmp_eq (tgt := 57) (ea_at dt_X9_sees 30 rfl) rfl (fun _ => ?_) (fun _ => ?_)
    · refine ev_iinc (ls' := [some (.ref a), some (.ref (1000 + p1)), some (.int (s28.1 + 1))]) (ea_at dt_X9_sees 33 rfl) rfl (congrArg (fun z => _ + z) ic_1) (ea_lt rfl) rfl ?_
      refine ev_goto (tgt := 28) (ea_at dt_X9_sees 34 rfl) rfl ?_
      exact ev_leaf (fun h => ea_drop (l' := [some (.ref a), some (.ref (1000 + p1)), some (.int (s28.1 + 1))]) ⟨Or.inr rfl, Or.inr rfl, Or.inr rfl, trivial⟩ (hC (s28.1 + 1, m10) h))
    · refine ev_iconst (ea_at dt_X9_sees 31 rfl) ic_0 ?_
      exact ev_zret (by decide) (ea_at dt_X9_sees 32 rfl) rfl ⟨by decide, by decide⟩ (fun h => hR _ h)
set_option maxHeartbeats 300000 in
theorem ok_X9_sees (G : ea_G) (a : Nat) (p1 : Nat) (m : ea_M) (ha : ea_isReader a) (hp1 : p1 < ea_str.length) (rZ : Int32) (mZ : ea_M) (hZ : f_X9_sees a p1 m = some (rZ, mZ)) : ea_Met G yX9_sees F_X9_sees [.ref a, .ref (1000 + p1)] m (0, rZ, mZ) := by
  refine ea_met (F := F_X9_sees) (by decide +kernel) rfl rfl (Nat.le_of_ble_eq_true rfl) (by simp only [List.mem_cons, List.not_mem_nil, or_false]; intro v hv; rcases hv with rfl | rfl <;> rfl) ((?_ : ea_E G F_X9_sees (0, rZ, mZ) 0 [some (.ref a), some (.ref (1000 + p1)), none] [] m 0 0 (f_X9_sees a p1 m) (fun t => t = (rZ, mZ))) (rZ, mZ) hZ rfl)
  have hR : ∀ t : Int32 × ea_M, t = (rZ, mZ) → ((0, rZ, mZ) : ea_O) = (0, t) := fun t h => by rw [h]
  unfold f_X9_sees
  refine ev_aload_n (ea_at dt_X9_sees 0 rfl) rfl ?_
  refine ev_getI (ea_at dt_X9_sees 1 rfl) fl_X9_15 ha rfl ?_
  refine ev_i (fun x1 => ?_)
  refine ev_iconst (ea_at dt_X9_sees 2 rfl) ic_1 ?_
  refine ev_icmp_ne (tgt := 24) (ea_at dt_X9_sees 3 rfl) rfl (fun _ => ?_) (fun _ => ?_)
  · refine ev_aload_n (ea_at dt_X9_sees 4 rfl) rfl ?_
    refine ev_getI (ea_at dt_X9_sees 5 rfl) fl_X9_21 ha rfl ?_
    refine ev_i (fun x2 => ?_)
    refine ev_aload_n (ea_at dt_X9_sees 6 rfl) rfl ?_
    refine ev_getI (ea_at dt_X9_sees 7 rfl) fl_X9_18 ha rfl ?_
    refine ev_i (fun x3 => ?_)
    refine ev_isub (ea_at dt_X9_sees 8 rfl) ?_
    refine ev_aload_n (ea_at dt_X9_sees 9 rfl) rfl ?_
    refine ev_clI (F1 := F_J0_length_8abf5) (fun rY mY hY => ea_runVS (As := []) (ea_at dt_X9_sees 10 rfl) ml_X9_50 mv_J0_length_8abf5 (ok_ea_slen G p1 m hp1 rY mY hY) hp1 rfl rfl (Nat.le_of_ble_eq_true rfl) rfl) rfl (fun r5 m4 => ?_)
    refine ev_icmp_eq (tgt := 26) (ea_at dt_X9_sees 11 rfl) rfl (fun _ => ?_) (fun _ => ?_)
    · refine ev_iconst (ea_at dt_X9_sees 14 rfl) ic_0 ?_
      refine ev_istore_n (ls' := [some (.ref a), some (.ref (1000 + p1)), some (.int 0)]) (ea_at dt_X9_sees 15 rfl) (ea_lt rfl) rfl ?_
      refine ev_drop (l' := [some (.ref a), some (.ref (1000 + p1)), some (.int 0)]) ⟨Or.inr rfl, Or.inr rfl, Or.inr rfl, trivial⟩ ?_
      refine ev_sl (lp_X9_sees_28 G a p1 ha hp1 (fun t h => by obtain ⟨t1, e1, q1⟩ := h; cases e1; exact hR t q1) (fun x28s h => ?_) ea_fuel (0, m4))
      obtain ⟨t1, e1, q1⟩ := h
      refine (?_ : ea_E G F_X9_sees (0, rZ, mZ) 63 [none, none, none] [] x28s 0 0 _ (fun t => t = (rZ, mZ))) t1 e1 q1
      refine ev_iconst (ea_at dt_X9_sees 35 rfl) ic_1 ?_
      exact ev_zret (by decide) (ea_at dt_X9_sees 36 rfl) rfl ⟨by decide, by decide⟩ (fun h => hR _ h)
    · refine ev_iconst (ea_at dt_X9_sees 12 rfl) ic_0 ?_
      exact ev_zret (by decide) (ea_at dt_X9_sees 13 rfl) rfl ⟨by decide, by decide⟩ (fun h => hR _ h)
  · refine ev_iconst (ea_at dt_X9_sees 12 rfl) ic_0 ?_
    exact ev_zret (by decide) (ea_at dt_X9_sees 13 rfl) rfl ⟨by decide, by decide⟩ (fun h => hR _ h)
def F_X9_refuse : ea_F := (ea_rm 8 0 0, cX9_refuse, RX9, some .boolean, 1, [], 0, 0)
def D_X9_refuse : List (Nat × Instr × Nat) := [(0, .aload_n 0, 1), (1, .aload_n 0, 1), (2, .getfield 18, 3), (5, .putfield 27, 3), (8, .iconst 0, 1), (9, .ireturn, 1)]
theorem dt_X9_refuse : ∀ q ∈ D_X9_refuse, decode cX9_refuse q.1 = .ok q.2 := by decide +kernel
theorem mv_X9_refuse : ea_MV yX9_refuse (F_X9_refuse) 0 := ⟨⟨List.mem_append_right _ (List.mem_of_getElem? (i := 7) (by decide +kernel)), List.mem_append_right _ (List.mem_of_getElem? (i := 729) (by decide +kernel)), ⟨by decide, by decide⟩, by decide +kernel⟩, List.mem_append_right _ (List.mem_of_getElem? (i := 727) (by decide +kernel)), List.mem_append_right _ (List.mem_of_getElem? (i := 728) (by decide +kernel))⟩
def f_X9_refuse (a : Nat) (m : ea_M) : Option (Int32 × ea_M) :=
  ea_bd (m a 3) fun x1 =>
  ea_bd (ea_st m a 6 x1) fun m2 =>
  some (0, m2)
set_option maxHeartbeats 300000 in
theorem ok_X9_refuse (G : ea_G) (a : Nat) (m : ea_M) (ha : ea_isReader a) (rZ : Int32) (mZ : ea_M) (hZ : f_X9_refuse a m = some (rZ, mZ)) : ea_Met G yX9_refuse F_X9_refuse [.ref a] m (0, rZ, mZ) := by
  refine ea_met (F := F_X9_refuse) (by decide +kernel) rfl rfl (Nat.le_of_ble_eq_true rfl) (by simp only [List.mem_cons, List.not_mem_nil, or_false]; intro v hv; rcases hv with rfl <;> rfl) ((?_ : ea_E G F_X9_refuse (0, rZ, mZ) 0 [some (.ref a)] [] m 0 0 (f_X9_refuse a m) (fun t => t = (rZ, mZ))) (rZ, mZ) hZ rfl)
  have hR : ∀ t : Int32 × ea_M, t = (rZ, mZ) → ((0, rZ, mZ) : ea_O) = (0, t) := fun t h => by rw [h]
  unfold f_X9_refuse
  refine ev_aload_n (ea_at dt_X9_refuse 0 rfl) rfl ?_
  refine ev_aload_n (ea_at dt_X9_refuse 1 rfl) rfl ?_
  refine ev_getI (ea_at dt_X9_refuse 2 rfl) fl_X9_18 ha rfl ?_
  refine ev_i (fun x1 => ?_)
  refine ev_putI (ea_at dt_X9_refuse 3 rfl) fl_X9_27 fp_9_6 ha rfl ?_
  refine ev_m (fun m2 => ?_)
  refine ev_iconst (ea_at dt_X9_refuse 4 rfl) ic_0 ?_
  exact ev_zret (by decide) (ea_at dt_X9_refuse 5 rfl) rfl ⟨by decide, by decide⟩ (fun h => hR _ h)
def F_X9_takes : ea_F := (ea_rm 14 0 0, cX9_takes, RX9, some .boolean, 2, [], 0, 0)
def D_X9_takes : List (Nat × Instr × Nat) := [(0, .aload_n 0, 1), (1, .aload_n 1, 1), (2, .invokevirtual 59, 3), (5, .ifCond .ne 8, 3), (8, .aload_n 0, 1), (9, .invokevirtual 63, 3), (12, .ireturn, 1), (13, .aload_n 0, 1), (14, .invokevirtual 43, 3), (17, .iconst 1, 1), (18, .ireturn, 1)]
theorem dt_X9_takes : ∀ q ∈ D_X9_takes, decode cX9_takes q.1 = .ok q.2 := by decide +kernel
theorem mv_X9_takes : ea_MV yX9_takes (F_X9_takes) 1 := ⟨⟨List.mem_append_right _ (List.mem_of_getElem? (i := 7) (by decide +kernel)), List.mem_append_right _ (List.mem_of_getElem? (i := 739) (by decide +kernel)), ⟨by decide, by decide⟩, by decide +kernel⟩, List.mem_append_right _ (List.mem_of_getElem? (i := 737) (by decide +kernel)), List.mem_append_right _ (List.mem_of_getElem? (i := 738) (by decide +kernel))⟩
def f_X9_takes (a : Nat) (p1 : Nat) (m : ea_M) : Option (Int32 × ea_M) :=
  ea_cl (f_X9_sees a p1 m) fun r2 m1 =>
  if r2 = 0 then
  ea_cl (f_X9_refuse a m1) fun r4 m3 =>
  ea_gz r4 (some (r4, m3))
  else
  ea_cl (f_X9_step a m1) fun r6 m5 =>
  some (1, m5)
set_option maxHeartbeats 300000 in
theorem ok_X9_takes (G : ea_G) (a : Nat) (p1 : Nat) (m : ea_M) (ha : ea_isReader a) (hp1 : p1 < ea_str.length) (rZ : Int32) (mZ : ea_M) (hZ : f_X9_takes a p1 m = some (rZ, mZ)) : ea_Met G yX9_takes F_X9_takes [.ref a, .ref (1000 + p1)] m (0, rZ, mZ) := by
  refine ea_met (F := F_X9_takes) (by decide +kernel) rfl rfl (Nat.le_of_ble_eq_true rfl) (by simp only [List.mem_cons, List.not_mem_nil, or_false]; intro v hv; rcases hv with rfl | rfl <;> rfl) ((?_ : ea_E G F_X9_takes (0, rZ, mZ) 0 [some (.ref a), some (.ref (1000 + p1))] [] m 0 0 (f_X9_takes a p1 m) (fun t => t = (rZ, mZ))) (rZ, mZ) hZ rfl)
  have hR : ∀ t : Int32 × ea_M, t = (rZ, mZ) → ((0, rZ, mZ) : ea_O) = (0, t) := fun t h => by rw [h]
  unfold f_X9_takes
  refine ev_aload_n (ea_at dt_X9_takes 0 rfl) rfl ?_
  refine ev_aload_n (ea_at dt_X9_takes 1 rfl) rfl ?_
  refine ev_clI (F1 := F_X9_sees) (fun rY mY hY => ea_runV (As := [.ref (1000 + p1)]) (ea_at dt_X9_takes 2 rfl) ml_X9_59 mv_X9_sees (ok_X9_sees G a p1 m ha hp1 rY mY hY) ha rfl rfl rfl (Nat.le_of_ble_eq_true rfl) rfl) rfl (fun r2 m1 => ?_)
  refine ev_if_ne (tgt := 13) (ea_at dt_X9_takes 3 rfl) rfl (fun _ => ?_) (fun _ => ?_)
  · refine ev_aload_n (ea_at dt_X9_takes 4 rfl) rfl ?_
    refine ev_clI (F1 := F_X9_refuse) (fun rY mY hY => ea_runV (As := []) (ea_at dt_X9_takes 5 rfl) ml_X9_63 mv_X9_refuse (ok_X9_refuse G a m1 ha rY mY hY) ha rfl rfl rfl (Nat.le_of_ble_eq_true rfl) rfl) rfl (fun r4 m3 => ?_)
    exact ev_zretG (ea_at dt_X9_takes 6 rfl) rfl ⟨by decide, by decide⟩ (fun h => hR _ h)
  · refine ev_aload_n (ea_at dt_X9_takes 7 rfl) rfl ?_
    refine ev_clU (F1 := F_X9_step) (fun rY mY hY => ea_runV (As := []) (ea_at dt_X9_takes 8 rfl) ml_X9_43 mv_X9_step (ok_X9_step G a m1 ha rY mY hY) ha rfl rfl rfl (Nat.le_of_ble_eq_true rfl) rfl) rfl (fun r6 m5 => ?_)
    refine ev_iconst (ea_at dt_X9_takes 9 rfl) ic_1 ?_
    exact ev_zret (by decide) (ea_at dt_X9_takes 10 rfl) rfl ⟨by decide, by decide⟩ (fun h => hR _ h)
def F_X9_takesNumber : ea_F := (ea_rm 10 0 0, cX9_takesNumber, RX9, some .boolean, 5, [], 0, 0)
def D_X9_takesNumber : List (Nat × Instr × Nat) := [(0, .aload_n 0, 1), (1, .getfield 15, 3), (4, .iconst 2, 1), (5, .if_icmp .ne 16, 3), (8, .aload_n 0, 1), (9, .getfield 21, 3), (12, .aload_n 0, 1), (13, .getfield 18, 3), (16, .isub, 1), (17, .iconst 3, 1), (18, .if_icmp .le 8, 3), (21, .aload_n 0, 1), (22, .invokevirtual 63, 3), (25, .ireturn, 1), (26, .iconst 0, 1), (27, .istore_n 3, 1), (28, .aload_n 0, 1), (29, .getfield 18, 3), (32, .istore 4, 2), (34, .iload 4, 2), (36, .aload_n 0, 1), (37, .getfield 21, 3), (40, .if_icmp .ge 25, 3), (43, .bipush 10, 2), (45, .iload_n 3, 1), (46, .imul, 1), (47, .aload_n 0, 1), (48, .getfield 30, 3), (51, .iload 4, 2), (53, .iaload, 1), (54, .iadd, 1), (55, .bipush 48, 2), (57, .isub, 1), (58, .istore_n 3, 1), (59, .iinc 4 1, 3), (62, .goto (-28), 3), (65, .iload_n 3, 1), (66, .iload_n 1, 1), (67, .if_icmp .lt 8, 3), (70, .iload_n 3, 1), (71, .iload_n 2, 1), (72, .if_icmp .le 8, 3), (75, .aload_n 0, 1), (76, .invokevirtual 63, 3), (79, .ireturn, 1), (80, .aload_n 0, 1), (81, .iload_n 3, 1), (82, .putfield 24, 3), (85, .aload_n 0, 1), (86, .invokevirtual 43, 3), (89, .iconst 1, 1), (90, .ireturn, 1)]
theorem dt_X9_takesNumber : ∀ q ∈ D_X9_takesNumber, decode cX9_takesNumber q.1 = .ok q.2 := by decide +kernel
theorem mv_X9_takesNumber : ea_MV yX9_takesNumber (F_X9_takesNumber) 2 := ⟨⟨List.mem_append_right _ (List.mem_of_getElem? (i := 7) (by decide +kernel)), List.mem_append_right _ (List.mem_of_getElem? (i := 745) (by decide +kernel)), ⟨by decide, by decide⟩, by decide +kernel⟩, List.mem_append_right _ (List.mem_of_getElem? (i := 743) (by decide +kernel)), List.mem_append_right _ (List.mem_of_getElem? (i := 744) (by decide +kernel))⟩
def f_X9_takesNumber_s34 (a : Nat) (p1 : Int32) (p2 : Int32)  (s34 : Int32 × Int32 × ea_M) : Option ((Int32 × Int32 × ea_M) ⊕ (Int32 × ea_M)) :=
  ea_bd (s34.2.2 a 4) fun x5 =>
  if x5 ≤ s34.2.1 then
  some (.inr (s34.1, s34.2.2))
  else
  ea_g s34.2.1 400 (ea_bd (s34.2.2 1 (Int32.toNatClampNeg s34.2.1)) fun x6 =>
  ea_bd ((10 * s34.1) + x6) fun x7 =>
  ea_bd (x7 - 48) fun x8 =>
  some (.inl (x8, s34.2.1 + 1, s34.2.2)))
def f_X9_takesNumber_j75 (a : Nat) (m9 : ea_M) : Option (Int32 × ea_M) :=
  ea_cl (f_X9_refuse a m9) fun r11 m10 =>
  ea_gz r11 (some (r11, m10))
def f_X9_takesNumber_j21 (a : Nat) (m15 : ea_M) : Option (Int32 × ea_M) :=
  ea_cl (f_X9_refuse a m15) fun r17 m16 =>
  ea_gz r17 (some (r17, m16))
def f_X9_takesNumber (a : Nat) (p1 : Int32) (p2 : Int32) (m : ea_M) : Option (Int32 × ea_M) :=
  ea_bd (m a 2) fun x1 =>
  if x1 = 2 then
  ea_bd (m a 4) fun x2 =>
  ea_bd (m a 3) fun x3 =>
  if (x2 - x3) ≤ 3 then
  ea_bd (m a 3) fun x4 =>
  (ea_loop (f_X9_takesNumber_s34 a p1 p2) ea_fuel (0, x4, m)).bind (fun x34s =>
  if x34s.1 < p1 then
  f_X9_takesNumber_j75 a x34s.2
  else
  if x34s.1 ≤ p2 then
  ea_bd (ea_st x34s.2 a 5 x34s.1) fun m12 =>
  ea_cl (f_X9_step a m12) fun r14 m13 =>
  some (1, m13)
  else
  f_X9_takesNumber_j75 a x34s.2)
  else
  f_X9_takesNumber_j21 a m
  else
  f_X9_takesNumber_j21 a m
set_option maxHeartbeats 300000 in
theorem lp_X9_takesNumber_34 (G : ea_G) {res : ea_O}  (a : Nat) (p1 : Int32) (p2 : Int32) (ha : ea_isReader a) {Ψ : (Int32 × ea_M) → Prop} (hX : ∀ x34s : Int32 × ea_M, Ψ x34s → ea_Ev G F_X9_takesNumber res 65 [some (.ref a), some (.int p1), some (.int p2), some (.int x34s.1), none] [] x34s.2 0 0) : ∀ (f : Nat) (s34 : Int32 × Int32 × ea_M), ea_E G F_X9_takesNumber res 34 [some (.ref a), some (.int p1), some (.int p2), some (.int s34.1), some (.int s34.2.1)] [] s34.2.2 0 0 (ea_loop (f_X9_takesNumber_s34 a p1 p2) f s34) Ψ := by
  refine ev_loop (G := G) (F := F_X9_takesNumber) (res := res) (pc := 34) (st := []) (k := 0) (n := 0) (step := (f_X9_takesNumber_s34 a p1 p2)) (Ψ := Ψ) (fun (s34 : Int32 × Int32 × ea_M) => [some (.ref a), some (.int p1), some (.int p2), some (.int s34.1), some (.int s34.2.1)]) (fun (s34 : Int32 × Int32 × ea_M) => s34.2.2) (fun s34 => ?_)
  have hC : ∀ s34 : Int32 × Int32 × ea_M, (Sum.elim (fun s34 : Int32 × Int32 × ea_M => ea_Ev G F_X9_takesNumber res 34 [some (.ref a), some (.int p1), some (.int p2), some (.int s34.1), some (.int s34.2.1)] [] s34.2.2 0 0) Ψ) (.inl s34) → ea_Ev G F_X9_takesNumber res 34 [some (.ref a), some (.int p1), some (.int p2), some (.int s34.1), some (.int s34.2.1)] [] s34.2.2 0 0 := fun _ h => h
  have hX : ∀ x34s : Int32 × ea_M, (Sum.elim (fun s34 : Int32 × Int32 × ea_M => ea_Ev G F_X9_takesNumber res 34 [some (.ref a), some (.int p1), some (.int p2), some (.int s34.1), some (.int s34.2.1)] [] s34.2.2 0 0) Ψ) (.inr x34s) → ea_Ev G F_X9_takesNumber res 65 [some (.ref a), some (.int p1), some (.int p2), some (.int x34s.1), none] [] x34s.2 0 0 := hX
  unfold f_X9_takesNumber_s34
  refine ev_iload (ea_at dt_X9_takesNumber 19 rfl) rfl ?_
  refine ev_aload_n (ea_at dt_X9_takesNumber 20 rfl) rfl ?_
  refine ev_getI (ea_at dt_X9_takesNumber 21 rfl) fl_X9_21 ha rfl ?_
  refine ev_i (fun x5 => ?_)
  refine ev_icmp_ge (tgt := 65) (ea_at dt_X9_takesNumber 22 rfl) rfl (fun _ => ?_) (fun _ => ?_)
  · exact ev_leaf (fun h => ea_drop (l' := [some (.ref a), some (.int p1), some (.int p2), some (.int s34.1), none]) ⟨Or.inr rfl, Or.inr rfl, Or.inr rfl, Or.inr rfl, Or.inl rfl, trivial⟩ (hX (s34.1, s34.2.2) h))
  · refine ev_bipush (ea_at dt_X9_takesNumber 23 rfl) bp_10 ?_
    refine ev_iload_n (ea_at dt_X9_takesNumber 24 rfl) rfl ?_
    refine ev_imul (ea_at dt_X9_takesNumber 25 rfl) ?_
    refine ev_aload_n (ea_at dt_X9_takesNumber 26 rfl) rfl ?_
    refine ev_getR (ea_at dt_X9_takesNumber 27 rfl) fl_X9_30 ha rfl ?_
    refine ev_iload (ea_at dt_X9_takesNumber 28 rfl) rfl ?_
    refine ev_iaload (ea_at dt_X9_takesNumber 29 rfl) sh_1 (by decide) ?_
    refine ev_i (fun x6 => ?_)
    refine ev_iadd (ea_at dt_X9_takesNumber 30 rfl) ?_
    refine ev_i (fun x7 => ?_)
    refine ev_bipush (ea_at dt_X9_takesNumber 31 rfl) bp_48 ?_
    refine ev_isub (ea_at dt_X9_takesNumber 32 rfl) ?_
    refine ev_i (fun x8 => ?_)
    refine ev_istore_n (ls' := [some (.ref a), some (.int p1), some (.int p2), some (.int x8), some (.int s34.2.1)]) (ea_at dt_X9_takesNumber 33 rfl) (ea_lt rfl) rfl ?_
    refine ev_iinc (ls' := [some (.ref a), some (.int p1), some (.int p2), some (.int x8), some (.int (s34.2.1 + 1))]) (ea_at dt_X9_takesNumber 34 rfl) rfl (congrArg (fun z => _ + z) ic_1) (ea_lt rfl) rfl ?_
    refine ev_goto (tgt := 34) (ea_at dt_X9_takesNumber 35 rfl) rfl ?_
    exact ev_leaf (fun h => ea_drop (l' := [some (.ref a), some (.int p1), some (.int p2), some (.int x8), some (.int (s34.2.1 + 1))]) ⟨Or.inr rfl, Or.inr rfl, Or.inr rfl, Or.inr rfl, Or.inr rfl, trivial⟩ (hC (x8, s34.2.1 + 1, s34.2.2) h))
set_option maxHeartbeats 300000 in
theorem jn_X9_takesNumber_75 (G : ea_G) {res : ea_O}  (a : Nat) (m9 : ea_M) (ha : ea_isReader a) {Φ : (Int32 × ea_M) → Prop} (hR : ∀ t : Int32 × ea_M, Φ t → res = (0, t)) : ea_E G F_X9_takesNumber res 75 [some (.ref a), none, none, none, none] [] m9 0 0 (f_X9_takesNumber_j75 a m9) Φ := by
  unfold f_X9_takesNumber_j75
  refine ev_aload_n (ea_at dt_X9_takesNumber 42 rfl) rfl ?_
  refine ev_clI (F1 := F_X9_refuse) (fun rY mY hY => ea_runV (As := []) (ea_at dt_X9_takesNumber 43 rfl) ml_X9_63 mv_X9_refuse (ok_X9_refuse G a m9 ha rY mY hY) ha rfl rfl rfl (Nat.le_of_ble_eq_true rfl) rfl) rfl (fun r11 m10 => ?_)
  exact ev_zretG (ea_at dt_X9_takesNumber 44 rfl) rfl ⟨by decide, by decide⟩ (fun h => hR _ h)
set_option maxHeartbeats 300000 in
theorem jn_X9_takesNumber_21 (G : ea_G) {res : ea_O}  (a : Nat) (m15 : ea_M) (ha : ea_isReader a) {Φ : (Int32 × ea_M) → Prop} (hR : ∀ t : Int32 × ea_M, Φ t → res = (0, t)) : ea_E G F_X9_takesNumber res 21 [some (.ref a), none, none, none, none] [] m15 0 0 (f_X9_takesNumber_j21 a m15) Φ := by
  unfold f_X9_takesNumber_j21
  refine ev_aload_n (ea_at dt_X9_takesNumber 11 rfl) rfl ?_
  refine ev_clI (F1 := F_X9_refuse) (fun rY mY hY => ea_runV (As := []) (ea_at dt_X9_takesNumber 12 rfl) ml_X9_63 mv_X9_refuse (ok_X9_refuse G a m15 ha rY mY hY) ha rfl rfl rfl (Nat.le_of_ble_eq_true rfl) rfl) rfl (fun r17 m16 => ?_)
  exact ev_zretG (ea_at dt_X9_takesNumber 13 rfl) rfl ⟨by decide, by decide⟩ (fun h => hR _ h)
set_option maxHeartbeats 300000 in
theorem ok_X9_takesNumber (G : ea_G) (a : Nat) (p1 : Int32) (p2 : Int32) (m : ea_M) (ha : ea_isReader a) (rZ : Int32) (mZ : ea_M) (hZ : f_X9_takesNumber a p1 p2 m = some (rZ, mZ)) : ea_Met G yX9_takesNumber F_X9_takesNumber [.ref a, .int p1, .int p2] m (0, rZ, mZ) := by
  refine ea_met (F := F_X9_takesNumber) (by decide +kernel) rfl rfl (Nat.le_of_ble_eq_true rfl) (by simp only [List.mem_cons, List.not_mem_nil, or_false]; intro v hv; rcases hv with rfl | rfl | rfl <;> rfl) ((?_ : ea_E G F_X9_takesNumber (0, rZ, mZ) 0 [some (.ref a), some (.int p1), some (.int p2), none, none] [] m 0 0 (f_X9_takesNumber a p1 p2 m) (fun t => t = (rZ, mZ))) (rZ, mZ) hZ rfl)
  have hR : ∀ t : Int32 × ea_M, t = (rZ, mZ) → ((0, rZ, mZ) : ea_O) = (0, t) := fun t h => by rw [h]
  unfold f_X9_takesNumber
  refine ev_aload_n (ea_at dt_X9_takesNumber 0 rfl) rfl ?_
  refine ev_getI (ea_at dt_X9_takesNumber 1 rfl) fl_X9_15 ha rfl ?_
  refine ev_i (fun x1 => ?_)
  refine ev_iconst (ea_at dt_X9_takesNumber 2 rfl) ic_2 ?_
  refine ev_icmp_ne (tgt := 21) (ea_at dt_X9_takesNumber 3 rfl) rfl (fun _ => ?_) (fun _ => ?_)
  · refine ev_aload_n (ea_at dt_X9_takesNumber 4 rfl) rfl ?_
    refine ev_getI (ea_at dt_X9_takesNumber 5 rfl) fl_X9_21 ha rfl ?_
    refine ev_i (fun x2 => ?_)
    refine ev_aload_n (ea_at dt_X9_takesNumber 6 rfl) rfl ?_
    refine ev_getI (ea_at dt_X9_takesNumber 7 rfl) fl_X9_18 ha rfl ?_
    refine ev_i (fun x3 => ?_)
    refine ev_isub (ea_at dt_X9_takesNumber 8 rfl) ?_
    refine ev_iconst (ea_at dt_X9_takesNumber 9 rfl) ic_3 ?_
    refine ev_icmp_le (tgt := 26) (ea_at dt_X9_takesNumber 10 rfl) rfl (fun _ => ?_) (fun _ => ?_)
    · refine ev_iconst (ea_at dt_X9_takesNumber 14 rfl) ic_0 ?_
      refine ev_istore_n (ls' := [some (.ref a), some (.int p1), some (.int p2), some (.int 0), none]) (ea_at dt_X9_takesNumber 15 rfl) (ea_lt rfl) rfl ?_
      refine ev_aload_n (ea_at dt_X9_takesNumber 16 rfl) rfl ?_
      refine ev_getI (ea_at dt_X9_takesNumber 17 rfl) fl_X9_18 ha rfl ?_
      refine ev_i (fun x4 => ?_)
      refine ev_istore (ls' := [some (.ref a), some (.int p1), some (.int p2), some (.int 0), some (.int x4)]) (ea_at dt_X9_takesNumber 18 rfl) (ea_lt rfl) rfl ?_
      refine ev_drop (l' := [some (.ref a), some (.int p1), some (.int p2), some (.int 0), some (.int x4)]) ⟨Or.inr rfl, Or.inr rfl, Or.inr rfl, Or.inr rfl, Or.inr rfl, trivial⟩ ?_
      refine ev_bind (lp_X9_takesNumber_34 G a p1 p2 ha  (fun x34s h => ?_) ea_fuel (0, x4, m))
      obtain ⟨t1, e1, q1⟩ := h
      refine (?_ : ea_E G F_X9_takesNumber (0, rZ, mZ) 65 [some (.ref a), some (.int p1), some (.int p2), some (.int x34s.1), none] [] x34s.2 0 0 _ (fun t => t = (rZ, mZ))) t1 e1 q1
      refine ev_iload_n (ea_at dt_X9_takesNumber 36 rfl) rfl ?_
      refine ev_iload_n (ea_at dt_X9_takesNumber 37 rfl) rfl ?_
      refine ev_icmp_lt (tgt := 75) (ea_at dt_X9_takesNumber 38 rfl) rfl (fun _ => ?_) (fun _ => ?_)
      · exact ev_drop (l' := [some (.ref a), none, none, none, none]) ⟨Or.inr rfl, Or.inl rfl, Or.inl rfl, Or.inl rfl, Or.inl rfl, trivial⟩ (jn_X9_takesNumber_75 G a x34s.2 ha hR)
      · refine ev_iload_n (ea_at dt_X9_takesNumber 39 rfl) rfl ?_
        refine ev_iload_n (ea_at dt_X9_takesNumber 40 rfl) rfl ?_
        refine ev_icmp_le (tgt := 80) (ea_at dt_X9_takesNumber 41 rfl) rfl (fun _ => ?_) (fun _ => ?_)
        · refine ev_aload_n (ea_at dt_X9_takesNumber 45 rfl) rfl ?_
          refine ev_iload_n (ea_at dt_X9_takesNumber 46 rfl) rfl ?_
          refine ev_putI (ea_at dt_X9_takesNumber 47 rfl) fl_X9_24 fp_9_5 ha rfl ?_
          refine ev_m (fun m12 => ?_)
          refine ev_aload_n (ea_at dt_X9_takesNumber 48 rfl) rfl ?_
          refine ev_clU (F1 := F_X9_step) (fun rY mY hY => ea_runV (As := []) (ea_at dt_X9_takesNumber 49 rfl) ml_X9_43 mv_X9_step (ok_X9_step G a m12 ha rY mY hY) ha rfl rfl rfl (Nat.le_of_ble_eq_true rfl) rfl) rfl (fun r14 m13 => ?_)
          refine ev_iconst (ea_at dt_X9_takesNumber 50 rfl) ic_1 ?_
          exact ev_zret (by decide) (ea_at dt_X9_takesNumber 51 rfl) rfl ⟨by decide, by decide⟩ (fun h => hR _ h)
        · exact ev_drop (l' := [some (.ref a), none, none, none, none]) ⟨Or.inr rfl, Or.inl rfl, Or.inl rfl, Or.inl rfl, Or.inl rfl, trivial⟩ (jn_X9_takesNumber_75 G a x34s.2 ha hR)
    · exact ev_drop (l' := [some (.ref a), none, none, none, none]) ⟨Or.inr rfl, Or.inl rfl, Or.inl rfl, Or.inl rfl, Or.inl rfl, trivial⟩ (jn_X9_takesNumber_21 G a m ha hR)
  · exact ev_drop (l' := [some (.ref a), none, none, none, none]) ⟨Or.inr rfl, Or.inl rfl, Or.inl rfl, Or.inl rfl, Or.inl rfl, trivial⟩ (jn_X9_takesNumber_21 G a m ha hR)
