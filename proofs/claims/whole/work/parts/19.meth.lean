def F_X4_together : ea_F := (ea_rm 8 0 0, cX4_together, RX4, some .int, 4, [], 0, 0)
def D_X4_together : List (Nat × Instr × Nat) := [(0, .iconst 0, 1), (1, .istore_n 2, 1), (2, .iconst 1, 1), (3, .istore_n 3, 1), (4, .iload_n 3, 1), (5, .bipush 8, 2), (7, .if_icmp .gt 25, 3), (10, .iload_n 2, 1), (11, .aload_n 0, 1), (12, .getfield 22, 3), (15, .iload_n 3, 1), (16, .iaload, 1), (17, .aload_n 1, 1), (18, .getfield 22, 3), (21, .iload_n 3, 1), (22, .iaload, 1), (23, .imul, 1), (24, .iadd, 1), (25, .istore_n 2, 1), (26, .iinc 3 1, 3), (29, .goto (-25), 3), (32, .iload_n 2, 1), (33, .ireturn, 1)]
theorem dt_X4_together : ∀ q ∈ D_X4_together, decode cX4_together q.1 = .ok q.2 := by decide +kernel
theorem mv_X4_together : ea_MV yX4_together (F_X4_together) 1 := ⟨⟨List.mem_append_right _ (List.mem_of_getElem? (i := 12) (by decide +kernel)), List.mem_append_right _ (List.mem_of_getElem? (i := 1235) (by decide +kernel)), ⟨by decide, by decide⟩, by decide +kernel⟩, List.mem_append_right _ (List.mem_of_getElem? (i := 1233) (by decide +kernel)), List.mem_append_right _ (List.mem_of_getElem? (i := 1234) (by decide +kernel))⟩
def f_X4_together_s4 (a : Nat) (p1 : Nat)  (s4 : Int32 × Int32 × ea_M) : Option ((Int32 × Int32 × ea_M) ⊕ (Int32 × ea_M)) :=
  if 8 < s4.2.1 then
  some (.inr (s4.1, s4.2.2))
  else
  ea_g s4.2.1 9 (ea_bd (s4.2.2 (a + 2) (Int32.toNatClampNeg s4.2.1)) fun x1 =>
  ea_g s4.2.1 9 (ea_bd (s4.2.2 (p1 + 2) (Int32.toNatClampNeg s4.2.1)) fun x2 =>
  ea_bd (s4.1 + (x1 * x2)) fun x3 =>
  some (.inl (x3, s4.2.1 + 1, s4.2.2))))
def f_X4_together (a : Nat) (p1 : Nat) (m : ea_M) : Option (Int32 × ea_M) :=
  (ea_loop (f_X4_together_s4 a p1) ea_fuel (0, 1, m)).bind (fun x4s =>
  some (x4s.1, x4s.2))
set_option maxHeartbeats 300000 in
theorem lp_X4_together_4 (G : ea_G) {res : ea_O}  (a : Nat) (p1 : Nat) (ha : ea_isFates a) (hp1 : ea_isFates p1) {Ψ : (Int32 × ea_M) → Prop} (hX : ∀ x4s : Int32 × ea_M, Ψ x4s → ea_Ev G F_X4_together res 32 [none, none, some (.int x4s.1), none] [] x4s.2 0 0) : ∀ (f : Nat) (s4 : Int32 × Int32 × ea_M), ea_E G F_X4_together res 4 [some (.ref a), some (.ref p1), some (.int s4.1), some (.int s4.2.1)] [] s4.2.2 0 0 (ea_loop (f_X4_together_s4 a p1) f s4) Ψ := by
  refine ev_loop (G := G) (F := F_X4_together) (res := res) (pc := 4) (st := []) (k := 0) (n := 0) (step := (f_X4_together_s4 a p1)) (Ψ := Ψ) (fun (s4 : Int32 × Int32 × ea_M) => [some (.ref a), some (.ref p1), some (.int s4.1), some (.int s4.2.1)]) (fun (s4 : Int32 × Int32 × ea_M) => s4.2.2) (fun s4 => ?_)
  have hC : ∀ s4 : Int32 × Int32 × ea_M, (Sum.elim (fun s4 : Int32 × Int32 × ea_M => ea_Ev G F_X4_together res 4 [some (.ref a), some (.ref p1), some (.int s4.1), some (.int s4.2.1)] [] s4.2.2 0 0) Ψ) (.inl s4) → ea_Ev G F_X4_together res 4 [some (.ref a), some (.ref p1), some (.int s4.1), some (.int s4.2.1)] [] s4.2.2 0 0 := fun _ h => h
  have hX : ∀ x4s : Int32 × ea_M, (Sum.elim (fun s4 : Int32 × Int32 × ea_M => ea_Ev G F_X4_together res 4 [some (.ref a), some (.ref p1), some (.int s4.1), some (.int s4.2.1)] [] s4.2.2 0 0) Ψ) (.inr x4s) → ea_Ev G F_X4_together res 32 [none, none, some (.int x4s.1), none] [] x4s.2 0 0 := hX
  unfold f_X4_together_s4
  refine ev_iload_n (ea_at dt_X4_together 4 rfl) rfl ?_
  refine ev_bipush (ea_at dt_X4_together 5 rfl) bp_8 ?_
  refine ev_icmp_gt (tgt := 32) (ea_at dt_X4_together 6 rfl) rfl (fun _ => ?_) (fun _ => ?_)
  · exact ev_leaf (fun h => ea_drop (l' := [none, none, some (.int s4.1), none]) ⟨Or.inl rfl, Or.inl rfl, Or.inr rfl, Or.inl rfl, trivial⟩ (hX (s4.1, s4.2.2) h))
  · refine ev_iload_n (ea_at dt_X4_together 7 rfl) rfl ?_
    refine ev_aload_n (ea_at dt_X4_together 8 rfl) rfl ?_
    refine ev_getR (ea_at dt_X4_together 9 rfl) fl_X4_22 ha.1 rfl ?_
    refine ev_iload_n (ea_at dt_X4_together 10 rfl) rfl ?_
    refine ev_iaload (ea_at dt_X4_together 11 rfl) ha.2.2 (by decide) ?_
    refine ev_i (fun x1 => ?_)
    refine ev_aload_n (ea_at dt_X4_together 12 rfl) rfl ?_
    refine ev_getR (ea_at dt_X4_together 13 rfl) fl_X4_22 hp1.1 rfl ?_
    refine ev_iload_n (ea_at dt_X4_together 14 rfl) rfl ?_
    refine ev_iaload (ea_at dt_X4_together 15 rfl) hp1.2.2 (by decide) ?_
    refine ev_i (fun x2 => ?_)
    refine ev_imul (ea_at dt_X4_together 16 rfl) ?_
    refine ev_iadd (ea_at dt_X4_together 17 rfl) ?_
    refine ev_i (fun x3 => ?_)
    refine ev_istore_n (ls' := [some (.ref a), some (.ref p1), some (.int x3), some (.int s4.2.1)]) (ea_at dt_X4_together 18 rfl) (ea_lt rfl) rfl ?_
    refine ev_iinc (ls' := [some (.ref a), some (.ref p1), some (.int x3), some (.int (s4.2.1 + 1))]) (ea_at dt_X4_together 19 rfl) rfl (congrArg (fun z => _ + z) ic_1) (ea_lt rfl) rfl ?_
    refine ev_goto (tgt := 4) (ea_at dt_X4_together 20 rfl) rfl ?_
    exact ev_leaf (fun h => ea_drop (l' := [some (.ref a), some (.ref p1), some (.int x3), some (.int (s4.2.1 + 1))]) ⟨Or.inr rfl, Or.inr rfl, Or.inr rfl, Or.inr rfl, trivial⟩ (hC (x3, s4.2.1 + 1, s4.2.2) h))
set_option maxHeartbeats 300000 in
theorem ok_X4_together (G : ea_G) (a : Nat) (p1 : Nat) (m : ea_M) (ha : ea_isFates a) (hp1 : ea_isFates p1) (rZ : Int32) (mZ : ea_M) (hZ : f_X4_together a p1 m = some (rZ, mZ)) : ea_Met G yX4_together F_X4_together [.ref a, .ref p1] m (0, rZ, mZ) := by
  refine ea_met (F := F_X4_together) (by decide +kernel) rfl rfl (Nat.le_of_ble_eq_true rfl) (by simp only [List.mem_cons, List.not_mem_nil, or_false]; intro v hv; rcases hv with rfl | rfl <;> rfl) ((?_ : ea_E G F_X4_together (0, rZ, mZ) 0 [some (.ref a), some (.ref p1), none, none] [] m 0 0 (f_X4_together a p1 m) (fun t => t = (rZ, mZ))) (rZ, mZ) hZ rfl)
  have hR : ∀ t : Int32 × ea_M, t = (rZ, mZ) → ((0, rZ, mZ) : ea_O) = (0, t) := fun t h => by rw [h]
  unfold f_X4_together
  refine ev_iconst (ea_at dt_X4_together 0 rfl) ic_0 ?_
  refine ev_istore_n (ls' := [some (.ref a), some (.ref p1), some (.int 0), none]) (ea_at dt_X4_together 1 rfl) (ea_lt rfl) rfl ?_
  refine ev_iconst (ea_at dt_X4_together 2 rfl) ic_1 ?_
  refine ev_istore_n (ls' := [some (.ref a), some (.ref p1), some (.int 0), some (.int 1)]) (ea_at dt_X4_together 3 rfl) (ea_lt rfl) rfl ?_
  refine ev_drop (l' := [some (.ref a), some (.ref p1), some (.int 0), some (.int 1)]) ⟨Or.inr rfl, Or.inr rfl, Or.inr rfl, Or.inr rfl, trivial⟩ ?_
  refine ev_bind (lp_X4_together_4 G a p1 ha hp1  (fun x4s h => ?_) ea_fuel (0, 1, m))
  obtain ⟨t1, e1, q1⟩ := h
  refine (?_ : ea_E G F_X4_together (0, rZ, mZ) 32 [none, none, some (.int x4s.1), none] [] x4s.2 0 0 _ (fun t => t = (rZ, mZ))) t1 e1 q1
  refine ev_iload_n (ea_at dt_X4_together 21 rfl) rfl ?_
  exact ev_iret (ea_at dt_X4_together 22 rfl) rfl ⟨by decide, by decide⟩ (fun h => hR _ h)
def F_X4_neither : ea_F := (ea_rm 9 0 0, cX4_neither, RX4, some .int, 2, [], 0, 0)
def D_X4_neither : List (Nat × Instr × Nat) := [(0, .sipush 6561, 3), (3, .aload_n 0, 1), (4, .invokevirtual 31, 3), (7, .isub, 1), (8, .sipush 6561, 3), (11, .aload_n 1, 1), (12, .invokevirtual 31, 3), (15, .isub, 1), (16, .imul, 1), (17, .ireturn, 1)]
theorem dt_X4_neither : ∀ q ∈ D_X4_neither, decode cX4_neither q.1 = .ok q.2 := by decide +kernel
theorem mv_X4_neither : ea_MV yX4_neither (F_X4_neither) 1 := ⟨⟨List.mem_append_right _ (List.mem_of_getElem? (i := 12) (by decide +kernel)), List.mem_append_right _ (List.mem_of_getElem? (i := 1239) (by decide +kernel)), ⟨by decide, by decide⟩, by decide +kernel⟩, List.mem_append_right _ (List.mem_of_getElem? (i := 1237) (by decide +kernel)), List.mem_append_right _ (List.mem_of_getElem? (i := 1238) (by decide +kernel))⟩
def f_X4_neither (a : Nat) (p1 : Nat) (m : ea_M) : Option (Int32 × ea_M) :=
  ea_cl (f_X4_allGood a m) fun r2 m1 =>
  ea_cl (f_X4_allGood p1 m1) fun r4 m3 =>
  ea_bd ((6561 - r2) * (6561 - r4)) fun x5 =>
  some (x5, m3)
set_option maxHeartbeats 300000 in
theorem ok_X4_neither (G : ea_G) (a : Nat) (p1 : Nat) (m : ea_M) (ha : ea_isFates a) (hp1 : ea_isFates p1) (rZ : Int32) (mZ : ea_M) (hZ : f_X4_neither a p1 m = some (rZ, mZ)) : ea_Met G yX4_neither F_X4_neither [.ref a, .ref p1] m (0, rZ, mZ) := by
  refine ea_met (F := F_X4_neither) (by decide +kernel) rfl rfl (Nat.le_of_ble_eq_true rfl) (by simp only [List.mem_cons, List.not_mem_nil, or_false]; intro v hv; rcases hv with rfl | rfl <;> rfl) ((?_ : ea_E G F_X4_neither (0, rZ, mZ) 0 [some (.ref a), some (.ref p1)] [] m 0 0 (f_X4_neither a p1 m) (fun t => t = (rZ, mZ))) (rZ, mZ) hZ rfl)
  have hR : ∀ t : Int32 × ea_M, t = (rZ, mZ) → ((0, rZ, mZ) : ea_O) = (0, t) := fun t h => by rw [h]
  unfold f_X4_neither
  refine ev_sipush (ea_at dt_X4_neither 0 rfl) sp_6561 ?_
  refine ev_aload_n (ea_at dt_X4_neither 1 rfl) rfl ?_
  refine ev_clI (F1 := F_X4_allGood) (fun rY mY hY => ea_runV (As := []) (ea_at dt_X4_neither 2 rfl) ml_X4_31 mv_X4_allGood (ok_X4_allGood G a m ha rY mY hY) ha.1 rfl rfl rfl (Nat.le_of_ble_eq_true rfl) rfl) rfl (fun r2 m1 => ?_)
  refine ev_isub (ea_at dt_X4_neither 3 rfl) ?_
  refine ev_sipush (ea_at dt_X4_neither 4 rfl) sp_6561 ?_
  refine ev_aload_n (ea_at dt_X4_neither 5 rfl) rfl ?_
  refine ev_clI (F1 := F_X4_allGood) (fun rY mY hY => ea_runV (As := []) (ea_at dt_X4_neither 6 rfl) ml_X4_31 mv_X4_allGood (ok_X4_allGood G p1 m1 hp1 rY mY hY) hp1.1 rfl rfl rfl (Nat.le_of_ble_eq_true rfl) rfl) rfl (fun r4 m3 => ?_)
  refine ev_isub (ea_at dt_X4_neither 7 rfl) ?_
  refine ev_imul (ea_at dt_X4_neither 8 rfl) ?_
  refine ev_i (fun x5 => ?_)
  exact ev_iret (ea_at dt_X4_neither 9 rfl) rfl ⟨by decide, by decide⟩ (fun h => hR _ h)
def F_X11_odds : ea_F := (ea_rm 15 3 18, cX11_odds, RX11, some .int, 4, [], 3, 18)
def D_X11_odds : List (Nat × Instr × Nat) := [(0, .aload_n 0, 1), (1, .iload_n 1, 1), (2, .invokevirtual 157, 3), (5, .aload_n 0, 1), (6, .iload_n 2, 1), (7, .invokevirtual 157, 3), (10, .aload_n 0, 1), (11, .invokevirtual 316, 3), (14, .iload_n 3, 1), (15, .tableswitch 75 0 3 #[29, 36, 43, 59], 29), (44, .aload_n 0, 1), (45, .iload_n 1, 1), (46, .iload_n 2, 1), (47, .invokevirtual 364, 3), (50, .ireturn, 1), (51, .aload_n 0, 1), (52, .iload_n 2, 1), (53, .iload_n 1, 1), (54, .invokevirtual 364, 3), (57, .ireturn, 1), (58, .aload_n 0, 1), (59, .getfield 98, 3), (62, .iload_n 1, 1), (63, .aaload, 1), (64, .aload_n 0, 1), (65, .getfield 98, 3), (68, .iload_n 2, 1), (69, .aaload, 1), (70, .invokevirtual 367, 3), (73, .ireturn, 1), (74, .aload_n 0, 1), (75, .getfield 98, 3), (78, .iload_n 1, 1), (79, .aaload, 1), (80, .aload_n 0, 1), (81, .getfield 98, 3), (84, .iload_n 2, 1), (85, .aaload, 1), (86, .invokevirtual 371, 3), (89, .ireturn, 1), (90, .new 172, 3), (93, .dup, 1), (94, .ldc 174, 2), (96, .invokespecial 176, 3), (99, .athrow, 1)]
theorem dt_X11_odds : ∀ q ∈ D_X11_odds, decode cX11_odds q.1 = .ok q.2 := by decide +kernel
theorem mv_X11_odds : ea_MV yX11_odds (F_X11_odds) 3 := ⟨⟨List.mem_append_right _ (List.mem_of_getElem? (i := 1) (by decide +kernel)), List.mem_append_right _ (List.mem_of_getElem? (i := 1223) (by decide +kernel)), ⟨by decide, by decide⟩, by decide +kernel⟩, List.mem_append_right _ (List.mem_of_getElem? (i := 1221) (by decide +kernel)), List.mem_append_right _ (List.mem_of_getElem? (i := 1222) (by decide +kernel))⟩
def f_X11_odds (p1 : Int32) (p2 : Int32) (p3 : Int32) (m : ea_M) : Option (ea_O) :=
  ea_cx (f_X11_needBird p1 m) (fun r2 m1 =>
  ea_cx (f_X11_needBird p2 m1) (fun r4 m3 =>
  ea_cl (f_X11_reckonFates m3) fun r6 m5 =>
  if p3 = 0 then
  ea_cl (f_X11_hasIt p1 p2 m5) fun r8 m7 =>
  some (0, r8, m7)
  else
  if p3 = 1 then
  ea_cl (f_X11_hasIt p2 p1 m5) fun r10 m9 =>
  some (0, r10, m9)
  else
  if p3 = 2 then
  ea_g p1 6 (ea_bd (ea_rFates.getD (Int32.toNatClampNeg p1) 0) fun a11 =>
  ea_g p2 6 (ea_bd (ea_rFates.getD (Int32.toNatClampNeg p2) 0) fun a12 =>
  ea_cl (f_X4_together a11 a12 m5) fun r14 m13 =>
  some (0, r14, m13)))
  else
  if p3 = 3 then
  ea_g p1 6 (ea_bd (ea_rFates.getD (Int32.toNatClampNeg p1) 0) fun a15 =>
  ea_g p2 6 (ea_bd (ea_rFates.getD (Int32.toNatClampNeg p2) 0) fun a16 =>
  ea_cl (f_X4_neither a15 a16 m5) fun r18 m17 =>
  some (0, r18, m17)))
  else
  some (4, 0, m5)) (fun kx mx => some (kx, 0, mx))) (fun kx mx => some (kx, 0, mx))
set_option maxHeartbeats 300000 in
theorem ok_X11_odds (G : ea_G) (p1 : Int32) (p2 : Int32) (p3 : Int32) (m : ea_M)  (zZ : ea_O) (hZ : f_X11_odds p1 p2 p3 m = some zZ) : ea_Met G yX11_odds F_X11_odds [.ref 0, .int p1, .int p2, .int p3] m zZ := by
  refine ea_met (F := F_X11_odds) (by decide +kernel) rfl rfl (Nat.le_of_ble_eq_true rfl) (by simp only [List.mem_cons, List.not_mem_nil, or_false]; intro v hv; rcases hv with rfl | rfl | rfl | rfl <;> rfl) ((?_ : ea_E G F_X11_odds zZ 0 [some (.ref 0), some (.int p1), some (.int p2), some (.int p3)] [] m 0 0 (f_X11_odds p1 p2 p3 m) (fun t => t = zZ)) zZ hZ rfl)
  have hR : ∀ t : ea_O, t = zZ → zZ = t := fun t h => h.symm
  unfold f_X11_odds
  refine ev_aload_n (ea_at dt_X11_odds 0 rfl) rfl ?_
  refine ev_iload_n (ea_at dt_X11_odds 1 rfl) rfl ?_
  refine ev_cxU (F1 := F_X11_needBird) rfl (fun zY hY => ea_runV (As := [.int p1]) (ea_at dt_X11_odds 2 rfl) ml_X11_157 mv_X11_needBird (ok_X11_needBird G p1 m  zY hY) sh_0 rfl rfl rfl (Nat.le_of_ble_eq_true rfl) rfl) rfl ⟨by decide, by decide⟩ (fun kx mx t e q => ⟨0, by cases e; exact hR _ q⟩) (fun r2 m1 => ?_)
  refine ev_aload_n (ea_at dt_X11_odds 3 rfl) rfl ?_
  refine ev_iload_n (ea_at dt_X11_odds 4 rfl) rfl ?_
  refine ev_cxU (F1 := F_X11_needBird) rfl (fun zY hY => ea_runV (As := [.int p2]) (ea_at dt_X11_odds 5 rfl) ml_X11_157 mv_X11_needBird (ok_X11_needBird G p2 m1  zY hY) sh_0 rfl rfl rfl (Nat.le_of_ble_eq_true rfl) rfl) rfl ⟨by decide, by decide⟩ (fun kx mx t e q => ⟨0, by cases e; exact hR _ q⟩) (fun r4 m3 => ?_)
  refine ev_aload_n (ea_at dt_X11_odds 6 rfl) rfl ?_
  refine ev_clU (F1 := F_X11_reckonFates) (fun rY mY hY => ea_runV (As := []) (ea_at dt_X11_odds 7 rfl) ml_X11_316 mv_X11_reckonFates (ok_X11_reckonFates G m3  rY mY hY) sh_0 rfl rfl rfl (Nat.le_of_ble_eq_true rfl) rfl) rfl (fun r6 m5 => ?_)
  refine ev_iload_n (ea_at dt_X11_odds 8 rfl) rfl ?_
  refine ev_ite (fun n0 => ?_) (fun n0 => ?_)
  · refine ev_tsw (c := 0) (tgt := 44) n0 (ea_at dt_X11_odds 9 rfl) (by decide) (by decide) rfl rfl ?_
    refine ev_aload_n (ea_at dt_X11_odds 10 rfl) rfl ?_
    refine ev_iload_n (ea_at dt_X11_odds 11 rfl) rfl ?_
    refine ev_iload_n (ea_at dt_X11_odds 12 rfl) rfl ?_
    refine ev_clI (F1 := F_X11_hasIt) (fun rY mY hY => ea_runV (As := [.int p1, .int p2]) (ea_at dt_X11_odds 13 rfl) ml_X11_364 mv_X11_hasIt (ok_X11_hasIt G p1 p2 m5  rY mY hY) sh_0 rfl rfl rfl (Nat.le_of_ble_eq_true rfl) rfl) rfl (fun r8 m7 => ?_)
    exact ev_iret (ea_at dt_X11_odds 14 rfl) rfl ⟨by decide, by decide⟩ (fun h => hR _ h)
  · refine ev_ite (fun n1 => ?_) (fun n1 => ?_)
    · refine ev_tsw (c := 1) (tgt := 51) n1 (ea_at dt_X11_odds 9 rfl) (by decide) (by decide) rfl rfl ?_
      refine ev_aload_n (ea_at dt_X11_odds 15 rfl) rfl ?_
      refine ev_iload_n (ea_at dt_X11_odds 16 rfl) rfl ?_
      refine ev_iload_n (ea_at dt_X11_odds 17 rfl) rfl ?_
      refine ev_clI (F1 := F_X11_hasIt) (fun rY mY hY => ea_runV (As := [.int p2, .int p1]) (ea_at dt_X11_odds 18 rfl) ml_X11_364 mv_X11_hasIt (ok_X11_hasIt G p2 p1 m5  rY mY hY) sh_0 rfl rfl rfl (Nat.le_of_ble_eq_true rfl) rfl) rfl (fun r10 m9 => ?_)
      exact ev_iret (ea_at dt_X11_odds 19 rfl) rfl ⟨by decide, by decide⟩ (fun h => hR _ h)
    · refine ev_ite (fun n2 => ?_) (fun n2 => ?_)
      · refine ev_tsw (c := 2) (tgt := 58) n2 (ea_at dt_X11_odds 9 rfl) (by decide) (by decide) rfl rfl ?_
        refine ev_aload_n (ea_at dt_X11_odds 20 rfl) rfl ?_
        refine ev_getR (ea_at dt_X11_odds 21 rfl) fl_X11_98 sh_0 rfl ?_
        refine ev_iload_n (ea_at dt_X11_odds 22 rfl) rfl ?_
        refine ev_aaloadP (rs := ea_rFates) (P := ea_isFates) ea_rFates_is (ea_at dt_X11_odds 23 rfl) sh_79 rfl (fun a11 ha11 => ?_)
        refine ev_aload_n (ea_at dt_X11_odds 24 rfl) rfl ?_
        refine ev_getR (ea_at dt_X11_odds 25 rfl) fl_X11_98 sh_0 rfl ?_
        refine ev_iload_n (ea_at dt_X11_odds 26 rfl) rfl ?_
        refine ev_aaloadP (rs := ea_rFates) (P := ea_isFates) ea_rFates_is (ea_at dt_X11_odds 27 rfl) sh_79 rfl (fun a12 ha12 => ?_)
        refine ev_clI (F1 := F_X4_together) (fun rY mY hY => ea_runV (As := [.ref a12]) (ea_at dt_X11_odds 28 rfl) ml_X11_367 mv_X4_together (ok_X4_together G a11 a12 m5 ha11 ha12 rY mY hY) ha11.1 rfl rfl rfl (Nat.le_of_ble_eq_true rfl) rfl) rfl (fun r14 m13 => ?_)
        exact ev_iret (ea_at dt_X11_odds 29 rfl) rfl ⟨by decide, by decide⟩ (fun h => hR _ h)
      · refine ev_ite (fun n3 => ?_) (fun n3 => ?_)
        · refine ev_tsw (c := 3) (tgt := 74) n3 (ea_at dt_X11_odds 9 rfl) (by decide) (by decide) rfl rfl ?_
          refine ev_aload_n (ea_at dt_X11_odds 30 rfl) rfl ?_
          refine ev_getR (ea_at dt_X11_odds 31 rfl) fl_X11_98 sh_0 rfl ?_
          refine ev_iload_n (ea_at dt_X11_odds 32 rfl) rfl ?_
          refine ev_aaloadP (rs := ea_rFates) (P := ea_isFates) ea_rFates_is (ea_at dt_X11_odds 33 rfl) sh_79 rfl (fun a15 ha15 => ?_)
          refine ev_aload_n (ea_at dt_X11_odds 34 rfl) rfl ?_
          refine ev_getR (ea_at dt_X11_odds 35 rfl) fl_X11_98 sh_0 rfl ?_
          refine ev_iload_n (ea_at dt_X11_odds 36 rfl) rfl ?_
          refine ev_aaloadP (rs := ea_rFates) (P := ea_isFates) ea_rFates_is (ea_at dt_X11_odds 37 rfl) sh_79 rfl (fun a16 ha16 => ?_)
          refine ev_clI (F1 := F_X4_neither) (fun rY mY hY => ea_runV (As := [.ref a16]) (ea_at dt_X11_odds 38 rfl) ml_X11_371 mv_X4_neither (ok_X4_neither G a15 a16 m5 ha15 ha16 rY mY hY) ha15.1 rfl rfl rfl (Nat.le_of_ble_eq_true rfl) rfl) rfl (fun r18 m17 => ?_)
          exact ev_iret (ea_at dt_X11_odds 39 rfl) rfl ⟨by decide, by decide⟩ (fun h => hR _ h)
        · refine ev_tswOut (cnt := 4) (tgt := 90) (ea_at dt_X11_odds 9 rfl) rfl (ea_nS (ea_nS (ea_nS (ea_nS (ea_nZ) (v := 0) (by decide) n0) (v := 1) (by decide) n1) (v := 2) (by decide) n2) (v := 3) (by decide) n3) rfl ?_
          exact ev_throwN (kx := 4) (j := 35) (ea_at dt_X11_odds 40 rfl) (ea_at dt_X11_odds 41 rfl) (ea_at dt_X11_odds 42 rfl) (ea_at dt_X11_odds 43 rfl) (ea_at dt_X11_odds 44 rfl) rfl (by decide) rfl cl_X11_172 ini_4 ml_X11_176 rfl ⟨by decide, by decide, by decide, by decide, by decide, by decide⟩ (fun h => ⟨0, hR _ h⟩)
def F_X11_best : ea_F := (ea_rm 15 1 6, cX11_best, RX11, some .int, 7, [], 1, 6)
def D_X11_best : List (Nat × Instr × Nat) := [(0, .aload_n 0, 1), (1, .iload_n 1, 1), (2, .invokevirtual 157, 3), (5, .aload_n 0, 1), (6, .invokevirtual 316, 3), (9, .iconst (-1), 1), (10, .istore_n 3, 1), (11, .iconst (-1), 1), (12, .istore 4, 2), (14, .iconst 0, 1), (15, .istore 5, 2), (17, .iload 5, 2), (19, .aload_n 0, 1), (20, .getfield 23, 3), (23, .getfield 233, 3), (26, .if_icmp .ge 43, 3), (29, .iload_n 2, 1), (30, .iload 5, 2), (32, .ishr, 1), (33, .iconst 1, 1), (34, .iand, 1), (35, .ifCond .ne 6, 3), (38, .goto 25, 3), (41, .aload_n 0, 1), (42, .iload 5, 2), (44, .iload_n 1, 1), (45, .invokevirtual 364, 3), (48, .istore 6, 2), (50, .iload 6, 2), (52, .iload_n 3, 1), (53, .if_icmp .le 10, 3), (56, .iload 6, 2), (58, .istore_n 3, 1), (59, .iload 5, 2), (61, .istore 4, 2), (63, .iinc 5 1, 3), (66, .goto (-49), 3), (69, .iload 4, 2), (71, .ireturn, 1)]
theorem dt_X11_best : ∀ q ∈ D_X11_best, decode cX11_best q.1 = .ok q.2 := by decide +kernel
theorem mv_X11_best : ea_MV yX11_best (F_X11_best) 2 := ⟨⟨List.mem_append_right _ (List.mem_of_getElem? (i := 1) (by decide +kernel)), List.mem_append_right _ (List.mem_of_getElem? (i := 1247) (by decide +kernel)), ⟨by decide, by decide⟩, by decide +kernel⟩, List.mem_append_right _ (List.mem_of_getElem? (i := 1245) (by decide +kernel)), List.mem_append_right _ (List.mem_of_getElem? (i := 1246) (by decide +kernel))⟩
def f_X11_best_j63 (p1 : Int32) (p2 : Int32) (x7 : Int32) (x8 : Int32) (x9 : Int32) (m10 : ea_M) : Option ((Int32 × Int32 × Int32 × ea_M) ⊕ (Int32 × ea_M)) :=
  some (.inl (x7, x8, x9 + 1, m10))
def f_X11_best_s17 (p1 : Int32) (p2 : Int32)  (s17 : Int32 × Int32 × Int32 × ea_M) : Option ((Int32 × Int32 × Int32 × ea_M) ⊕ (Int32 × ea_M)) :=
  ea_bd (s17.2.2.2 2 8) fun x5 =>
  if x5 ≤ s17.2.2.1 then
  some (.inr (s17.2.1, s17.2.2.2))
  else
  ea_bd ((p2 >>> (s17.2.2.1 &&& 31)) &&& 1) fun x6 =>
  if x6 = 0 then
  f_X11_best_j63 p1 p2 s17.1 s17.2.1 s17.2.2.1 s17.2.2.2
  else
  ea_cl (f_X11_hasIt s17.2.2.1 p1 s17.2.2.2) fun r12 m11 =>
  if r12 ≤ s17.1 then
  f_X11_best_j63 p1 p2 s17.1 s17.2.1 s17.2.2.1 m11
  else
  f_X11_best_j63 p1 p2 r12 s17.2.2.1 s17.2.2.1 m11
def f_X11_best (p1 : Int32) (p2 : Int32) (m : ea_M) : Option (ea_O) :=
  ea_cx (f_X11_needBird p1 m) (fun r2 m1 =>
  ea_cl (f_X11_reckonFates m1) fun r4 m3 =>
  (ea_loop (f_X11_best_s17 p1 p2) ea_fuel ((-1), (-1), 0, m3)).bind (fun x17s =>
  some (0, x17s.1, x17s.2))) (fun kx mx => some (kx, 0, mx))
set_option maxHeartbeats 300000 in
theorem jn_X11_best_63 (G : ea_G) {res : ea_O}  (p1 : Int32) (p2 : Int32) (x7 : Int32) (x8 : Int32) (x9 : Int32) (m10 : ea_M)  {Φ : ((Int32 × Int32 × Int32 × ea_M) ⊕ (Int32 × ea_M)) → Prop} (hC : ∀ s17 : Int32 × Int32 × Int32 × ea_M, Φ (.inl s17) → ea_Ev G F_X11_best res 17 [some (.ref 0), some (.int p1), some (.int p2), some (.int s17.1), some (.int s17.2.1), some (.int s17.2.2.1), none] [] s17.2.2.2 1 6) (hX : ∀ x17s : Int32 × ea_M, Φ (.inr x17s) → ea_Ev G F_X11_best res 69 [none, none, none, none, some (.int x17s.1), none, none] [] x17s.2 1 6) : ea_E G F_X11_best res 63 [some (.ref 0), some (.int p1), some (.int p2), some (.int x7), some (.int x8), some (.int x9), none] [] m10 1 6 (f_X11_best_j63 p1 p2 x7 x8 x9 m10) Φ := by
  unfold f_X11_best_j63
  refine ev_iinc (ls' := [some (.ref 0), some (.int p1), some (.int p2), some (.int x7), some (.int x8), some (.int (x9 + 1)), none]) (ea_at dt_X11_best 35 rfl) rfl (congrArg (fun z => _ + z) ic_1) (ea_lt rfl) rfl ?_
  refine ev_goto (tgt := 17) (ea_at dt_X11_best 36 rfl) rfl ?_
  exact ev_leaf (fun h => ea_drop (l' := [some (.ref 0), some (.int p1), some (.int p2), some (.int x7), some (.int x8), some (.int (x9 + 1)), none]) ⟨Or.inr rfl, Or.inr rfl, Or.inr rfl, Or.inr rfl, Or.inr rfl, Or.inr rfl, Or.inl rfl, trivial⟩ (hC (x7, x8, x9 + 1, m10) h))
set_option maxHeartbeats 300000 in
theorem lp_X11_best_17 (G : ea_G) {res : ea_O}  (p1 : Int32) (p2 : Int32)  {Ψ : (Int32 × ea_M) → Prop} (hX : ∀ x17s : Int32 × ea_M, Ψ x17s → ea_Ev G F_X11_best res 69 [none, none, none, none, some (.int x17s.1), none, none] [] x17s.2 1 6) : ∀ (f : Nat) (s17 : Int32 × Int32 × Int32 × ea_M), ea_E G F_X11_best res 17 [some (.ref 0), some (.int p1), some (.int p2), some (.int s17.1), some (.int s17.2.1), some (.int s17.2.2.1), none] [] s17.2.2.2 1 6 (ea_loop (f_X11_best_s17 p1 p2) f s17) Ψ := by
  refine ev_loop (G := G) (F := F_X11_best) (res := res) (pc := 17) (st := []) (k := 1) (n := 6) (step := (f_X11_best_s17 p1 p2)) (Ψ := Ψ) (fun (s17 : Int32 × Int32 × Int32 × ea_M) => [some (.ref 0), some (.int p1), some (.int p2), some (.int s17.1), some (.int s17.2.1), some (.int s17.2.2.1), none]) (fun (s17 : Int32 × Int32 × Int32 × ea_M) => s17.2.2.2) (fun s17 => ?_)
  have hC : ∀ s17 : Int32 × Int32 × Int32 × ea_M, (Sum.elim (fun s17 : Int32 × Int32 × Int32 × ea_M => ea_Ev G F_X11_best res 17 [some (.ref 0), some (.int p1), some (.int p2), some (.int s17.1), some (.int s17.2.1), some (.int s17.2.2.1), none] [] s17.2.2.2 1 6) Ψ) (.inl s17) → ea_Ev G F_X11_best res 17 [some (.ref 0), some (.int p1), some (.int p2), some (.int s17.1), some (.int s17.2.1), some (.int s17.2.2.1), none] [] s17.2.2.2 1 6 := fun _ h => h
  have hX : ∀ x17s : Int32 × ea_M, (Sum.elim (fun s17 : Int32 × Int32 × Int32 × ea_M => ea_Ev G F_X11_best res 17 [some (.ref 0), some (.int p1), some (.int p2), some (.int s17.1), some (.int s17.2.1), some (.int s17.2.2.1), none] [] s17.2.2.2 1 6) Ψ) (.inr x17s) → ea_Ev G F_X11_best res 69 [none, none, none, none, some (.int x17s.1), none, none] [] x17s.2 1 6 := hX
  unfold f_X11_best_s17
  refine ev_iload (ea_at dt_X11_best 11 rfl) rfl ?_
  refine ev_aload_n (ea_at dt_X11_best 12 rfl) rfl ?_
  refine ev_getR (ea_at dt_X11_best 13 rfl) fl_X11_23 sh_0 rfl ?_
  refine ev_getI (ea_at dt_X11_best 14 rfl) fl_X11_233 sh_2 rfl ?_
  refine ev_i (fun x5 => ?_)
  refine ev_icmp_ge (tgt := 69) (ea_at dt_X11_best 15 rfl) rfl (fun _ => ?_) (fun _ => ?_)
  · exact ev_leaf (fun h => ea_drop (l' := [none, none, none, none, some (.int s17.2.1), none, none]) ⟨Or.inl rfl, Or.inl rfl, Or.inl rfl, Or.inl rfl, Or.inr rfl, Or.inl rfl, Or.inl rfl, trivial⟩ (hX (s17.2.1, s17.2.2.2) h))
  · refine ev_iload_n (ea_at dt_X11_best 16 rfl) rfl ?_
    refine ev_iload (ea_at dt_X11_best 17 rfl) rfl ?_
    refine ev_ishr (ea_at dt_X11_best 18 rfl) ?_
    refine ev_iconst (ea_at dt_X11_best 19 rfl) ic_1 ?_
    refine ev_iand (ea_at dt_X11_best 20 rfl) ?_
    refine ev_i (fun x6 => ?_)
    refine ev_if_ne (tgt := 41) (ea_at dt_X11_best 21 rfl) rfl (fun _ => ?_) (fun _ => ?_)
    · refine ev_goto (tgt := 63) (ea_at dt_X11_best 22 rfl) rfl ?_
      exact ev_drop (l' := [some (.ref 0), some (.int p1), some (.int p2), some (.int s17.1), some (.int s17.2.1), some (.int s17.2.2.1), none]) ⟨Or.inr rfl, Or.inr rfl, Or.inr rfl, Or.inr rfl, Or.inr rfl, Or.inr rfl, Or.inl rfl, trivial⟩ (jn_X11_best_63 G p1 p2 s17.1 s17.2.1 s17.2.2.1 s17.2.2.2  hC hX)
    · refine ev_aload_n (ea_at dt_X11_best 23 rfl) rfl ?_
      refine ev_iload (ea_at dt_X11_best 24 rfl) rfl ?_
      refine ev_iload_n (ea_at dt_X11_best 25 rfl) rfl ?_
      refine ev_clI (F1 := F_X11_hasIt) (fun rY mY hY => ea_runV (As := [.int s17.2.2.1, .int p1]) (ea_at dt_X11_best 26 rfl) ml_X11_364 mv_X11_hasIt (ok_X11_hasIt G s17.2.2.1 p1 s17.2.2.2  rY mY hY) sh_0 rfl rfl rfl (Nat.le_of_ble_eq_true rfl) rfl) rfl (fun r12 m11 => ?_)
      refine ev_istore (ls' := [some (.ref 0), some (.int p1), some (.int p2), some (.int s17.1), some (.int s17.2.1), some (.int s17.2.2.1), some (.int r12)]) (ea_at dt_X11_best 27 rfl) (ea_lt rfl) rfl ?_
      refine ev_iload (ea_at dt_X11_best 28 rfl) rfl ?_
      refine ev_iload_n (ea_at dt_X11_best 29 rfl) rfl ?_
      refine ev_icmp_le (tgt := 63) (ea_at dt_X11_best 30 rfl) rfl (fun _ => ?_) (fun _ => ?_)
      · exact ev_drop (l' := [some (.ref 0), some (.int p1), some (.int p2), some (.int s17.1), some (.int s17.2.1), some (.int s17.2.2.1), none]) ⟨Or.inr rfl, Or.inr rfl, Or.inr rfl, Or.inr rfl, Or.inr rfl, Or.inr rfl, Or.inl rfl, trivial⟩ (jn_X11_best_63 G p1 p2 s17.1 s17.2.1 s17.2.2.1 m11  hC hX)
      · refine ev_iload (ea_at dt_X11_best 31 rfl) rfl ?_
        refine ev_istore_n (ls' := [some (.ref 0), some (.int p1), some (.int p2), some (.int r12), some (.int s17.2.1), some (.int s17.2.2.1), some (.int r12)]) (ea_at dt_X11_best 32 rfl) (ea_lt rfl) rfl ?_
        refine ev_iload (ea_at dt_X11_best 33 rfl) rfl ?_
        refine ev_istore (ls' := [some (.ref 0), some (.int p1), some (.int p2), some (.int r12), some (.int s17.2.2.1), some (.int s17.2.2.1), some (.int r12)]) (ea_at dt_X11_best 34 rfl) (ea_lt rfl) rfl ?_
        exact ev_drop (l' := [some (.ref 0), some (.int p1), some (.int p2), some (.int r12), some (.int s17.2.2.1), some (.int s17.2.2.1), none]) ⟨Or.inr rfl, Or.inr rfl, Or.inr rfl, Or.inr rfl, Or.inr rfl, Or.inr rfl, Or.inl rfl, trivial⟩ (jn_X11_best_63 G p1 p2 r12 s17.2.2.1 s17.2.2.1 m11  hC hX)
set_option maxHeartbeats 300000 in
theorem ok_X11_best (G : ea_G) (p1 : Int32) (p2 : Int32) (m : ea_M)  (zZ : ea_O) (hZ : f_X11_best p1 p2 m = some zZ) : ea_Met G yX11_best F_X11_best [.ref 0, .int p1, .int p2] m zZ := by
  refine ea_met (F := F_X11_best) (by decide +kernel) rfl rfl (Nat.le_of_ble_eq_true rfl) (by simp only [List.mem_cons, List.not_mem_nil, or_false]; intro v hv; rcases hv with rfl | rfl | rfl <;> rfl) ((?_ : ea_E G F_X11_best zZ 0 [some (.ref 0), some (.int p1), some (.int p2), none, none, none, none] [] m 0 0 (f_X11_best p1 p2 m) (fun t => t = zZ)) zZ hZ rfl)
  have hR : ∀ t : ea_O, t = zZ → zZ = t := fun t h => h.symm
  unfold f_X11_best
  refine ev_aload_n (ea_at dt_X11_best 0 rfl) rfl ?_
  refine ev_iload_n (ea_at dt_X11_best 1 rfl) rfl ?_
  refine ev_cxU (F1 := F_X11_needBird) rfl (fun zY hY => ea_runV (As := [.int p1]) (ea_at dt_X11_best 2 rfl) ml_X11_157 mv_X11_needBird (ok_X11_needBird G p1 m  zY hY) sh_0 rfl rfl rfl (Nat.le_of_ble_eq_true rfl) rfl) rfl ⟨by decide, by decide⟩ (fun kx mx t e q => ⟨0, by cases e; exact hR _ q⟩) (fun r2 m1 => ?_)
  refine ev_aload_n (ea_at dt_X11_best 3 rfl) rfl ?_
  refine ev_clU (F1 := F_X11_reckonFates) (fun rY mY hY => ea_runV (As := []) (ea_at dt_X11_best 4 rfl) ml_X11_316 mv_X11_reckonFates (ok_X11_reckonFates G m1  rY mY hY) sh_0 rfl rfl rfl (Nat.le_of_ble_eq_true rfl) rfl) rfl (fun r4 m3 => ?_)
  refine ev_iconst (ea_at dt_X11_best 5 rfl) ic_m1 ?_
  refine ev_istore_n (ls' := [some (.ref 0), some (.int p1), some (.int p2), some (.int (-1)), none, none, none]) (ea_at dt_X11_best 6 rfl) (ea_lt rfl) rfl ?_
  refine ev_iconst (ea_at dt_X11_best 7 rfl) ic_m1 ?_
  refine ev_istore (ls' := [some (.ref 0), some (.int p1), some (.int p2), some (.int (-1)), some (.int (-1)), none, none]) (ea_at dt_X11_best 8 rfl) (ea_lt rfl) rfl ?_
  refine ev_iconst (ea_at dt_X11_best 9 rfl) ic_0 ?_
  refine ev_istore (ls' := [some (.ref 0), some (.int p1), some (.int p2), some (.int (-1)), some (.int (-1)), some (.int 0), none]) (ea_at dt_X11_best 10 rfl) (ea_lt rfl) rfl ?_
  refine ev_drop (l' := [some (.ref 0), some (.int p1), some (.int p2), some (.int (-1)), some (.int (-1)), some (.int 0), none]) ⟨Or.inr rfl, Or.inr rfl, Or.inr rfl, Or.inr rfl, Or.inr rfl, Or.inr rfl, Or.inl rfl, trivial⟩ ?_
  refine ev_bind (lp_X11_best_17 G p1 p2   (fun x17s h => ?_) ea_fuel ((-1), (-1), 0, m3))
  obtain ⟨t1, e1, q1⟩ := h
  refine (?_ : ea_E G F_X11_best zZ 69 [none, none, none, none, some (.int x17s.1), none, none] [] x17s.2 1 6 _ (fun t => t = zZ)) t1 e1 q1
  refine ev_iload (ea_at dt_X11_best 37 rfl) rfl ?_
  exact ev_iret (ea_at dt_X11_best 38 rfl) rfl ⟨by decide, by decide⟩ (fun h => hR _ h)
def F_X11_when : ea_F := (ea_rm 14 2 12, cX11_when, RX11, some .int, 8, [], 2, 12)
def D_X11_when : List (Nat × Instr × Nat) := [(0, .aload_n 0, 1), (1, .iload_n 1, 1), (2, .invokevirtual 157, 3), (5, .aload_n 0, 1), (6, .iload_n 2, 1), (7, .invokevirtual 157, 3), (10, .aload_n 0, 1), (11, .getfield 23, 3), (14, .getfield 245, 3), (17, .istore_n 3, 1), (18, .iconst (-1), 1), (19, .istore 4, 2), (21, .iconst 0, 1), (22, .istore 5, 2), (24, .iconst 0, 1), (25, .istore 6, 2), (27, .iload 6, 2), (29, .bipush 24, 2), (31, .if_icmp .ge 70, 3), (34, .aload_n 0, 1), (35, .getfield 23, 3), (38, .iload 6, 2), (40, .putfield 245, 3), (43, .aload_n 0, 1), (44, .getfield 92, 3), (47, .iload_n 1, 1), (48, .aload_n 0, 1), (49, .getfield 106, 3), (52, .invokevirtual 360, 3), (55, .aload_n 0, 1), (56, .getfield 92, 3), (59, .iload_n 2, 1), (60, .aload_n 0, 1), (61, .getfield 110, 3), (64, .invokevirtual 360, 3), (67, .aload_n 0, 1), (68, .getfield 106, 3), (71, .aload_n 0, 1), (72, .getfield 110, 3), (75, .invokevirtual 374, 3), (78, .istore 7, 2), (80, .iload 7, 2), (82, .iload 4, 2), (84, .if_icmp .le 11, 3), (87, .iload 7, 2), (89, .istore 4, 2), (91, .iload 6, 2), (93, .istore 5, 2), (95, .iinc 6 1, 3), (98, .goto (-71), 3), (101, .aload_n 0, 1), (102, .getfield 23, 3), (105, .iload_n 3, 1), (106, .putfield 245, 3), (109, .iload 5, 2), (111, .ireturn, 1)]
theorem dt_X11_when : ∀ q ∈ D_X11_when, decode cX11_when q.1 = .ok q.2 := by decide +kernel
theorem mv_X11_when : ea_MV yX11_when (F_X11_when) 2 := ⟨⟨List.mem_append_right _ (List.mem_of_getElem? (i := 1) (by decide +kernel)), List.mem_append_right _ (List.mem_of_getElem? (i := 1254) (by decide +kernel)), ⟨by decide, by decide⟩, by decide +kernel⟩, List.mem_append_right _ (List.mem_of_getElem? (i := 1252) (by decide +kernel)), List.mem_append_right _ (List.mem_of_getElem? (i := 1253) (by decide +kernel))⟩
def f_X11_when_j95 (p1 : Int32) (p2 : Int32) (x5 : Int32) (x13 : Int32) (x14 : Int32) (x15 : Int32) (m16 : ea_M) : Option ((Int32 × Int32 × Int32 × ea_M) ⊕ (Int32 × ea_M)) :=
  some (.inl (x13, x14, x15 + 1, m16))
def f_X11_when_s27 (p1 : Int32) (p2 : Int32) (x5 : Int32)  (s27 : Int32 × Int32 × Int32 × ea_M) : Option ((Int32 × Int32 × Int32 × ea_M) ⊕ (Int32 × ea_M)) :=
  if 24 ≤ s27.2.2.1 then
  some (.inr (s27.2.1, s27.2.2.2))
  else
  ea_bd (ea_st s27.2.2.2 2 4 s27.2.2.1) fun m6 =>
  ea_cl (f_X10_reckon p1 80 m6) fun r8 m7 =>
  ea_cl (f_X10_reckon p2 83 m7) fun r10 m9 =>
  ea_cl (f_X4_ahead 80 83 m9) fun r12 m11 =>
  if r12 ≤ s27.1 then
  f_X11_when_j95 p1 p2 x5 s27.1 s27.2.1 s27.2.2.1 m11
  else
  f_X11_when_j95 p1 p2 x5 r12 s27.2.2.1 s27.2.2.1 m11
def f_X11_when (p1 : Int32) (p2 : Int32) (m : ea_M) : Option (ea_O) :=
  ea_cx (f_X11_needBird p1 m) (fun r2 m1 =>
  ea_cx (f_X11_needBird p2 m1) (fun r4 m3 =>
  ea_bd (m3 2 4) fun x5 =>
  (ea_loop (f_X11_when_s27 p1 p2 x5) ea_fuel ((-1), 0, 0, m3)).bind (fun x27s =>
  ea_bd (ea_st x27s.2 2 4 x5) fun m17 =>
  some (0, x27s.1, m17))) (fun kx mx => some (kx, 0, mx))) (fun kx mx => some (kx, 0, mx))
set_option maxHeartbeats 300000 in
theorem jn_X11_when_95 (G : ea_G) {res : ea_O}  (p1 : Int32) (p2 : Int32) (x5 : Int32) (x13 : Int32) (x14 : Int32) (x15 : Int32) (m16 : ea_M)  {Φ : ((Int32 × Int32 × Int32 × ea_M) ⊕ (Int32 × ea_M)) → Prop} (hC : ∀ s27 : Int32 × Int32 × Int32 × ea_M, Φ (.inl s27) → ea_Ev G F_X11_when res 27 [some (.ref 0), some (.int p1), some (.int p2), some (.int x5), some (.int s27.1), some (.int s27.2.1), some (.int s27.2.2.1), none] [] s27.2.2.2 2 12) (hX : ∀ x27s : Int32 × ea_M, Φ (.inr x27s) → ea_Ev G F_X11_when res 101 [some (.ref 0), none, none, some (.int x5), none, some (.int x27s.1), none, none] [] x27s.2 2 12) : ea_E G F_X11_when res 95 [some (.ref 0), some (.int p1), some (.int p2), some (.int x5), some (.int x13), some (.int x14), some (.int x15), none] [] m16 2 12 (f_X11_when_j95 p1 p2 x5 x13 x14 x15 m16) Φ := by
  unfold f_X11_when_j95
  refine ev_iinc (ls' := [some (.ref 0), some (.int p1), some (.int p2), some (.int x5), some (.int x13), some (.int x14), some (.int (x15 + 1)), none]) (ea_at dt_X11_when 48 rfl) rfl (congrArg (fun z => _ + z) ic_1) (ea_lt rfl) rfl ?_
  refine ev_goto (tgt := 27) (ea_at dt_X11_when 49 rfl) rfl ?_
  exact ev_leaf (fun h => ea_drop (l' := [some (.ref 0), some (.int p1), some (.int p2), some (.int x5), some (.int x13), some (.int x14), some (.int (x15 + 1)), none]) ⟨Or.inr rfl, Or.inr rfl, Or.inr rfl, Or.inr rfl, Or.inr rfl, Or.inr rfl, Or.inr rfl, Or.inl rfl, trivial⟩ (hC (x13, x14, x15 + 1, m16) h))
set_option maxHeartbeats 300000 in
theorem lp_X11_when_27 (G : ea_G) {res : ea_O}  (p1 : Int32) (p2 : Int32) (x5 : Int32)  {Ψ : (Int32 × ea_M) → Prop} (hX : ∀ x27s : Int32 × ea_M, Ψ x27s → ea_Ev G F_X11_when res 101 [some (.ref 0), none, none, some (.int x5), none, some (.int x27s.1), none, none] [] x27s.2 2 12) : ∀ (f : Nat) (s27 : Int32 × Int32 × Int32 × ea_M), ea_E G F_X11_when res 27 [some (.ref 0), some (.int p1), some (.int p2), some (.int x5), some (.int s27.1), some (.int s27.2.1), some (.int s27.2.2.1), none] [] s27.2.2.2 2 12 (ea_loop (f_X11_when_s27 p1 p2 x5) f s27) Ψ := by
  refine ev_loop (G := G) (F := F_X11_when) (res := res) (pc := 27) (st := []) (k := 2) (n := 12) (step := (f_X11_when_s27 p1 p2 x5)) (Ψ := Ψ) (fun (s27 : Int32 × Int32 × Int32 × ea_M) => [some (.ref 0), some (.int p1), some (.int p2), some (.int x5), some (.int s27.1), some (.int s27.2.1), some (.int s27.2.2.1), none]) (fun (s27 : Int32 × Int32 × Int32 × ea_M) => s27.2.2.2) (fun s27 => ?_)
  have hC : ∀ s27 : Int32 × Int32 × Int32 × ea_M, (Sum.elim (fun s27 : Int32 × Int32 × Int32 × ea_M => ea_Ev G F_X11_when res 27 [some (.ref 0), some (.int p1), some (.int p2), some (.int x5), some (.int s27.1), some (.int s27.2.1), some (.int s27.2.2.1), none] [] s27.2.2.2 2 12) Ψ) (.inl s27) → ea_Ev G F_X11_when res 27 [some (.ref 0), some (.int p1), some (.int p2), some (.int x5), some (.int s27.1), some (.int s27.2.1), some (.int s27.2.2.1), none] [] s27.2.2.2 2 12 := fun _ h => h
  have hX : ∀ x27s : Int32 × ea_M, (Sum.elim (fun s27 : Int32 × Int32 × Int32 × ea_M => ea_Ev G F_X11_when res 27 [some (.ref 0), some (.int p1), some (.int p2), some (.int x5), some (.int s27.1), some (.int s27.2.1), some (.int s27.2.2.1), none] [] s27.2.2.2 2 12) Ψ) (.inr x27s) → ea_Ev G F_X11_when res 101 [some (.ref 0), none, none, some (.int x5), none, some (.int x27s.1), none, none] [] x27s.2 2 12 := hX
  unfold f_X11_when_s27
  refine ev_iload (ea_at dt_X11_when 16 rfl) rfl ?_
  refine ev_bipush (ea_at dt_X11_when 17 rfl) bp_24 ?_
  refine ev_icmp_ge (tgt := 101) (ea_at dt_X11_when 18 rfl) rfl (fun _ => ?_) (fun _ => ?_)
  · exact ev_leaf (fun h => ea_drop (l' := [some (.ref 0), none, none, some (.int x5), none, some (.int s27.2.1), none, none]) ⟨Or.inr rfl, Or.inl rfl, Or.inl rfl, Or.inr rfl, Or.inl rfl, Or.inr rfl, Or.inl rfl, Or.inl rfl, trivial⟩ (hX (s27.2.1, s27.2.2.2) h))
  · refine ev_aload_n (ea_at dt_X11_when 19 rfl) rfl ?_
    refine ev_getR (ea_at dt_X11_when 20 rfl) fl_X11_23 sh_0 rfl ?_
    refine ev_iload (ea_at dt_X11_when 21 rfl) rfl ?_
    refine ev_putI (ea_at dt_X11_when 22 rfl) fl_X11_245 fp_2_4 sh_2 rfl ?_
    refine ev_m (fun m6 => ?_)
    refine ev_aload_n (ea_at dt_X11_when 23 rfl) rfl ?_
    refine ev_getR (ea_at dt_X11_when 24 rfl) fl_X11_92 sh_0 rfl ?_
    refine ev_iload_n (ea_at dt_X11_when 25 rfl) rfl ?_
    refine ev_aload_n (ea_at dt_X11_when 26 rfl) rfl ?_
    refine ev_getR (ea_at dt_X11_when 27 rfl) fl_X11_106 sh_0 rfl ?_
    refine ev_clU (F1 := F_X10_reckon) (fun rY mY hY => ea_runV (As := [.int p1, .ref 80]) (ea_at dt_X11_when 28 rfl) ml_X11_360 mv_X10_reckon (ok_X10_reckon G p1 80 m6 is_Fates_80 rY mY hY) sh_76 rfl rfl rfl (Nat.le_of_ble_eq_true rfl) rfl) rfl (fun r8 m7 => ?_)
    refine ev_aload_n (ea_at dt_X11_when 29 rfl) rfl ?_
    refine ev_getR (ea_at dt_X11_when 30 rfl) fl_X11_92 sh_0 rfl ?_
    refine ev_iload_n (ea_at dt_X11_when 31 rfl) rfl ?_
    refine ev_aload_n (ea_at dt_X11_when 32 rfl) rfl ?_
    refine ev_getR (ea_at dt_X11_when 33 rfl) fl_X11_110 sh_0 rfl ?_
    refine ev_clU (F1 := F_X10_reckon) (fun rY mY hY => ea_runV (As := [.int p2, .ref 83]) (ea_at dt_X11_when 34 rfl) ml_X11_360 mv_X10_reckon (ok_X10_reckon G p2 83 m7 is_Fates_83 rY mY hY) sh_76 rfl rfl rfl (Nat.le_of_ble_eq_true rfl) rfl) rfl (fun r10 m9 => ?_)
    refine ev_aload_n (ea_at dt_X11_when 35 rfl) rfl ?_
    refine ev_getR (ea_at dt_X11_when 36 rfl) fl_X11_106 sh_0 rfl ?_
    refine ev_aload_n (ea_at dt_X11_when 37 rfl) rfl ?_
    refine ev_getR (ea_at dt_X11_when 38 rfl) fl_X11_110 sh_0 rfl ?_
    refine ev_clI (F1 := F_X4_ahead) (fun rY mY hY => ea_runV (As := [.ref 83]) (ea_at dt_X11_when 39 rfl) ml_X11_374 mv_X4_ahead (ok_X4_ahead G 80 83 m9 is_Fates_80 is_Fates_83 rY mY hY) sh_80 rfl rfl rfl (Nat.le_of_ble_eq_true rfl) rfl) rfl (fun r12 m11 => ?_)
    refine ev_istore (ls' := [some (.ref 0), some (.int p1), some (.int p2), some (.int x5), some (.int s27.1), some (.int s27.2.1), some (.int s27.2.2.1), some (.int r12)]) (ea_at dt_X11_when 40 rfl) (ea_lt rfl) rfl ?_
    refine ev_iload (ea_at dt_X11_when 41 rfl) rfl ?_
    refine ev_iload (ea_at dt_X11_when 42 rfl) rfl ?_
    refine ev_icmp_le (tgt := 95) (ea_at dt_X11_when 43 rfl) rfl (fun _ => ?_) (fun _ => ?_)
    · exact ev_drop (l' := [some (.ref 0), some (.int p1), some (.int p2), some (.int x5), some (.int s27.1), some (.int s27.2.1), some (.int s27.2.2.1), none]) ⟨Or.inr rfl, Or.inr rfl, Or.inr rfl, Or.inr rfl, Or.inr rfl, Or.inr rfl, Or.inr rfl, Or.inl rfl, trivial⟩ (jn_X11_when_95 G p1 p2 x5 s27.1 s27.2.1 s27.2.2.1 m11  hC hX)
    · refine ev_iload (ea_at dt_X11_when 44 rfl) rfl ?_
      refine ev_istore (ls' := [some (.ref 0), some (.int p1), some (.int p2), some (.int x5), some (.int r12), some (.int s27.2.1), some (.int s27.2.2.1), some (.int r12)]) (ea_at dt_X11_when 45 rfl) (ea_lt rfl) rfl ?_
      refine ev_iload (ea_at dt_X11_when 46 rfl) rfl ?_
      refine ev_istore (ls' := [some (.ref 0), some (.int p1), some (.int p2), some (.int x5), some (.int r12), some (.int s27.2.2.1), some (.int s27.2.2.1), some (.int r12)]) (ea_at dt_X11_when 47 rfl) (ea_lt rfl) rfl ?_
      exact ev_drop (l' := [some (.ref 0), some (.int p1), some (.int p2), some (.int x5), some (.int r12), some (.int s27.2.2.1), some (.int s27.2.2.1), none]) ⟨Or.inr rfl, Or.inr rfl, Or.inr rfl, Or.inr rfl, Or.inr rfl, Or.inr rfl, Or.inr rfl, Or.inl rfl, trivial⟩ (jn_X11_when_95 G p1 p2 x5 r12 s27.2.2.1 s27.2.2.1 m11  hC hX)
set_option maxHeartbeats 300000 in
theorem ok_X11_when (G : ea_G) (p1 : Int32) (p2 : Int32) (m : ea_M)  (zZ : ea_O) (hZ : f_X11_when p1 p2 m = some zZ) : ea_Met G yX11_when F_X11_when [.ref 0, .int p1, .int p2] m zZ := by
  refine ea_met (F := F_X11_when) (by decide +kernel) rfl rfl (Nat.le_of_ble_eq_true rfl) (by simp only [List.mem_cons, List.not_mem_nil, or_false]; intro v hv; rcases hv with rfl | rfl | rfl <;> rfl) ((?_ : ea_E G F_X11_when zZ 0 [some (.ref 0), some (.int p1), some (.int p2), none, none, none, none, none] [] m 0 0 (f_X11_when p1 p2 m) (fun t => t = zZ)) zZ hZ rfl)
  have hR : ∀ t : ea_O, t = zZ → zZ = t := fun t h => h.symm
  unfold f_X11_when
  refine ev_aload_n (ea_at dt_X11_when 0 rfl) rfl ?_
  refine ev_iload_n (ea_at dt_X11_when 1 rfl) rfl ?_
  refine ev_cxU (F1 := F_X11_needBird) rfl (fun zY hY => ea_runV (As := [.int p1]) (ea_at dt_X11_when 2 rfl) ml_X11_157 mv_X11_needBird (ok_X11_needBird G p1 m  zY hY) sh_0 rfl rfl rfl (Nat.le_of_ble_eq_true rfl) rfl) rfl ⟨by decide, by decide⟩ (fun kx mx t e q => ⟨0, by cases e; exact hR _ q⟩) (fun r2 m1 => ?_)
  refine ev_aload_n (ea_at dt_X11_when 3 rfl) rfl ?_
  refine ev_iload_n (ea_at dt_X11_when 4 rfl) rfl ?_
  refine ev_cxU (F1 := F_X11_needBird) rfl (fun zY hY => ea_runV (As := [.int p2]) (ea_at dt_X11_when 5 rfl) ml_X11_157 mv_X11_needBird (ok_X11_needBird G p2 m1  zY hY) sh_0 rfl rfl rfl (Nat.le_of_ble_eq_true rfl) rfl) rfl ⟨by decide, by decide⟩ (fun kx mx t e q => ⟨0, by cases e; exact hR _ q⟩) (fun r4 m3 => ?_)
  refine ev_aload_n (ea_at dt_X11_when 6 rfl) rfl ?_
  refine ev_getR (ea_at dt_X11_when 7 rfl) fl_X11_23 sh_0 rfl ?_
  refine ev_getI (ea_at dt_X11_when 8 rfl) fl_X11_245 sh_2 rfl ?_
  refine ev_i (fun x5 => ?_)
  refine ev_istore_n (ls' := [some (.ref 0), some (.int p1), some (.int p2), some (.int x5), none, none, none, none]) (ea_at dt_X11_when 9 rfl) (ea_lt rfl) rfl ?_
  refine ev_iconst (ea_at dt_X11_when 10 rfl) ic_m1 ?_
  refine ev_istore (ls' := [some (.ref 0), some (.int p1), some (.int p2), some (.int x5), some (.int (-1)), none, none, none]) (ea_at dt_X11_when 11 rfl) (ea_lt rfl) rfl ?_
  refine ev_iconst (ea_at dt_X11_when 12 rfl) ic_0 ?_
  refine ev_istore (ls' := [some (.ref 0), some (.int p1), some (.int p2), some (.int x5), some (.int (-1)), some (.int 0), none, none]) (ea_at dt_X11_when 13 rfl) (ea_lt rfl) rfl ?_
  refine ev_iconst (ea_at dt_X11_when 14 rfl) ic_0 ?_
  refine ev_istore (ls' := [some (.ref 0), some (.int p1), some (.int p2), some (.int x5), some (.int (-1)), some (.int 0), some (.int 0), none]) (ea_at dt_X11_when 15 rfl) (ea_lt rfl) rfl ?_
  refine ev_drop (l' := [some (.ref 0), some (.int p1), some (.int p2), some (.int x5), some (.int (-1)), some (.int 0), some (.int 0), none]) ⟨Or.inr rfl, Or.inr rfl, Or.inr rfl, Or.inr rfl, Or.inr rfl, Or.inr rfl, Or.inr rfl, Or.inl rfl, trivial⟩ ?_
  refine ev_bind (lp_X11_when_27 G p1 p2 x5   (fun x27s h => ?_) ea_fuel ((-1), 0, 0, m3))
  obtain ⟨t1, e1, q1⟩ := h
  refine (?_ : ea_E G F_X11_when zZ 101 [some (.ref 0), none, none, some (.int x5), none, some (.int x27s.1), none, none] [] x27s.2 2 12 _ (fun t => t = zZ)) t1 e1 q1
  refine ev_aload_n (ea_at dt_X11_when 50 rfl) rfl ?_
  refine ev_getR (ea_at dt_X11_when 51 rfl) fl_X11_23 sh_0 rfl ?_
  refine ev_iload_n (ea_at dt_X11_when 52 rfl) rfl ?_
  refine ev_putI (ea_at dt_X11_when 53 rfl) fl_X11_245 fp_2_4 sh_2 rfl ?_
  refine ev_m (fun m17 => ?_)
  refine ev_iload (ea_at dt_X11_when 54 rfl) rfl ?_
  exact ev_iret (ea_at dt_X11_when 55 rfl) rfl ⟨by decide, by decide⟩ (fun h => hR _ h)
def F_X11_needOpenCase : ea_F := (ea_rm 9 2 12, cX11_needOpenCase, RX11, none, 2, [], 2, 12)
def D_X11_needOpenCase : List (Nat × Instr × Nat) := [(0, .aload_n 0, 1), (1, .iload_n 1, 1), (2, .invokevirtual 190, 3), (5, .aload_n 0, 1), (6, .getfield 23, 3), (9, .getfield 180, 3), (12, .getfield 202, 3), (15, .iload_n 1, 1), (16, .iaload, 1), (17, .ifCond .eq 14, 3), (20, .new 276, 3), (23, .dup, 1), (24, .ldc_w 442, 3), (27, .invokespecial 280, 3), (30, .athrow, 1), (31, .return_, 1)]
theorem dt_X11_needOpenCase : ∀ q ∈ D_X11_needOpenCase, decode cX11_needOpenCase q.1 = .ok q.2 := by decide +kernel
theorem mv_X11_needOpenCase : ea_MV yX11_needOpenCase (F_X11_needOpenCase) 1 := ⟨⟨List.mem_append_right _ (List.mem_of_getElem? (i := 1) (by decide +kernel)), List.mem_append_right _ (List.mem_of_getElem? (i := 1265) (by decide +kernel)), ⟨by decide, by decide⟩, by decide +kernel⟩, List.mem_append_right _ (List.mem_of_getElem? (i := 1264) (by decide +kernel)), List.mem_append_left _ (List.mem_of_getElem? (i := 34) (by decide +kernel))⟩
def f_X11_needOpenCase (p1 : Int32) (m : ea_M) : Option (ea_O) :=
  ea_cx (f_X11_needCase p1 m) (fun r2 m1 =>
  ea_g p1 12 (ea_bd (m1 13 (Int32.toNatClampNeg p1)) fun x3 =>
  if x3 = 0 then
  some (0, 0, m1)
  else
  some (3, 0, m1))) (fun kx mx => some (kx, 0, mx))
set_option maxHeartbeats 300000 in
theorem ok_X11_needOpenCase (G : ea_G) (p1 : Int32) (m : ea_M)  (zZ : ea_O) (hZ : f_X11_needOpenCase p1 m = some zZ) : ea_Met G yX11_needOpenCase F_X11_needOpenCase [.ref 0, .int p1] m zZ := by
  refine ea_met (F := F_X11_needOpenCase) (by decide +kernel) rfl rfl (Nat.le_of_ble_eq_true rfl) (by simp only [List.mem_cons, List.not_mem_nil, or_false]; intro v hv; rcases hv with rfl | rfl <;> rfl) ((?_ : ea_E G F_X11_needOpenCase zZ 0 [some (.ref 0), some (.int p1)] [] m 0 0 (f_X11_needOpenCase p1 m) (fun t => t = zZ)) zZ hZ rfl)
  have hR : ∀ t : ea_O, t = zZ → zZ = t := fun t h => h.symm
  unfold f_X11_needOpenCase
  refine ev_aload_n (ea_at dt_X11_needOpenCase 0 rfl) rfl ?_
  refine ev_iload_n (ea_at dt_X11_needOpenCase 1 rfl) rfl ?_
  refine ev_cxU (F1 := F_X11_needCase) rfl (fun zY hY => ea_runV (As := [.int p1]) (ea_at dt_X11_needOpenCase 2 rfl) ml_X11_190 mv_X11_needCase (ok_X11_needCase G p1 m  zY hY) sh_0 rfl rfl rfl (Nat.le_of_ble_eq_true rfl) rfl) rfl ⟨by decide, by decide⟩ (fun kx mx t e q => ⟨0, by cases e; exact hR _ q⟩) (fun r2 m1 => ?_)
  refine ev_aload_n (ea_at dt_X11_needOpenCase 3 rfl) rfl ?_
  refine ev_getR (ea_at dt_X11_needOpenCase 4 rfl) fl_X11_23 sh_0 rfl ?_
  refine ev_getR (ea_at dt_X11_needOpenCase 5 rfl) fl_X11_180 sh_2 rfl ?_
  refine ev_getR (ea_at dt_X11_needOpenCase 6 rfl) fl_X11_202 sh_8 rfl ?_
  refine ev_iload_n (ea_at dt_X11_needOpenCase 7 rfl) rfl ?_
  refine ev_iaload (ea_at dt_X11_needOpenCase 8 rfl) sh_13 (by decide) ?_
  refine ev_i (fun x3 => ?_)
  refine ev_if_eq (tgt := 31) (ea_at dt_X11_needOpenCase 9 rfl) rfl (fun _ => ?_) (fun _ => ?_)
  · exact ev_vret (ea_at dt_X11_needOpenCase 15 rfl) rfl ⟨by decide, by decide⟩ (fun h => ⟨0, hR _ h⟩)
  · exact ev_throwSW (kx := 3) (j := 44) (ea_at dt_X11_needOpenCase 10 rfl) (ea_at dt_X11_needOpenCase 11 rfl) (ea_at dt_X11_needOpenCase 12 rfl) (ea_at dt_X11_needOpenCase 13 rfl) (ea_at dt_X11_needOpenCase 14 rfl) rfl (by decide) rfl (by decide +kernel) ea_tw3 cl_X11_276 ini_3 ml_X11_280 rfl ⟨by decide, by decide, by decide, by decide, by decide, by decide⟩ (fun h => ⟨0, hR _ h⟩)
def F_X11_atLeast : ea_F := (ea_rm 10 0 0, cX11_atLeast, RX11, some .int, 5, [], 0, 0)
def D_X11_atLeast : List (Nat × Instr × Nat) := [(0, .ldc_w 383, 3), (3, .istore_n 3, 1), (4, .iconst 0, 1), (5, .istore 4, 2), (7, .iload 4, 2), (9, .aload_n 0, 1), (10, .getfield 23, 3), (13, .getfield 233, 3), (16, .if_icmp .ge 30, 3), (19, .iload_n 2, 1), (20, .iload 4, 2), (22, .ishr, 1), (23, .iconst 1, 1), (24, .iand, 1), (25, .ifCond .eq 15, 3), (28, .iload_n 3, 1), (29, .aload_n 0, 1), (30, .iload_n 1, 1), (31, .iload 4, 2), (33, .invokevirtual 364, 3), (36, .invokestatic 311, 3), (39, .istore_n 3, 1), (40, .iinc 4 1, 3), (43, .goto (-36), 3), (46, .iload_n 3, 1), (47, .i2l, 1), (48, .ldc2_w 384, 3), (51, .lmul, 1), (52, .ldc2_w 386, 3), (55, .ldiv, 1), (56, .l2i, 1), (57, .ireturn, 1)]
theorem dt_X11_atLeast : ∀ q ∈ D_X11_atLeast, decode cX11_atLeast q.1 = .ok q.2 := by decide +kernel
theorem mv_X11_atLeast : ea_MV yX11_atLeast (F_X11_atLeast) 2 := ⟨⟨List.mem_append_right _ (List.mem_of_getElem? (i := 1) (by decide +kernel)), List.mem_append_right _ (List.mem_of_getElem? (i := 1270) (by decide +kernel)), ⟨by decide, by decide⟩, by decide +kernel⟩, List.mem_append_right _ (List.mem_of_getElem? (i := 1269) (by decide +kernel)), List.mem_append_left _ (List.mem_of_getElem? (i := 35) (by decide +kernel))⟩
def f_X11_atLeast_j40 (p1 : Int32) (p2 : Int32) (x3 : Int32) (x4 : Int32) (m5 : ea_M) : Option ((Int32 × Int32 × ea_M) ⊕ (Int32 × ea_M)) :=
  some (.inl (x3, x4 + 1, m5))
def f_X11_atLeast_s7 (p1 : Int32) (p2 : Int32)  (s7 : Int32 × Int32 × ea_M) : Option ((Int32 × Int32 × ea_M) ⊕ (Int32 × ea_M)) :=
  ea_bd (s7.2.2 2 8) fun x1 =>
  if x1 ≤ s7.2.1 then
  some (.inr (s7.1, s7.2.2))
  else
  ea_bd ((p2 >>> (s7.2.1 &&& 31)) &&& 1) fun x2 =>
  if x2 = 0 then
  f_X11_atLeast_j40 p1 p2 s7.1 s7.2.1 s7.2.2
  else
  ea_cl (f_X11_hasIt p1 s7.2.1 s7.2.2) fun r7 m6 =>
  ea_bd (ea_min s7.1 r7) fun x8 =>
  f_X11_atLeast_j40 p1 p2 x8 s7.2.1 m6
def f_X11_atLeast (p1 : Int32) (p2 : Int32) (m : ea_M) : Option (Int32 × ea_M) :=
  (ea_loop (f_X11_atLeast_s7 p1 p2) ea_fuel (43046721, 0, m)).bind (fun x7s =>
  ea_bd (Int64.toInt32 ((x7s.1.toInt64 * ((100 : Int64))) / ((43046721 : Int64)))) fun x9 =>
  some (x9, x7s.2))
set_option maxHeartbeats 300000 in
theorem jn_X11_atLeast_40 (G : ea_G) {res : ea_O}  (p1 : Int32) (p2 : Int32) (x3 : Int32) (x4 : Int32) (m5 : ea_M)  {Φ : ((Int32 × Int32 × ea_M) ⊕ (Int32 × ea_M)) → Prop} (hC : ∀ s7 : Int32 × Int32 × ea_M, Φ (.inl s7) → ea_Ev G F_X11_atLeast res 7 [some (.ref 0), some (.int p1), some (.int p2), some (.int s7.1), some (.int s7.2.1)] [] s7.2.2 0 0) (hX : ∀ x7s : Int32 × ea_M, Φ (.inr x7s) → ea_Ev G F_X11_atLeast res 46 [none, none, none, some (.int x7s.1), none] [] x7s.2 0 0) : ea_E G F_X11_atLeast res 40 [some (.ref 0), some (.int p1), some (.int p2), some (.int x3), some (.int x4)] [] m5 0 0 (f_X11_atLeast_j40 p1 p2 x3 x4 m5) Φ := by
  unfold f_X11_atLeast_j40
  refine ev_iinc (ls' := [some (.ref 0), some (.int p1), some (.int p2), some (.int x3), some (.int (x4 + 1))]) (ea_at dt_X11_atLeast 22 rfl) rfl (congrArg (fun z => _ + z) ic_1) (ea_lt rfl) rfl ?_
  refine ev_goto (tgt := 7) (ea_at dt_X11_atLeast 23 rfl) rfl ?_
  exact ev_leaf (fun h => ea_drop (l' := [some (.ref 0), some (.int p1), some (.int p2), some (.int x3), some (.int (x4 + 1))]) ⟨Or.inr rfl, Or.inr rfl, Or.inr rfl, Or.inr rfl, Or.inr rfl, trivial⟩ (hC (x3, x4 + 1, m5) h))
set_option maxHeartbeats 300000 in
theorem lp_X11_atLeast_7 (G : ea_G) {res : ea_O}  (p1 : Int32) (p2 : Int32)  {Ψ : (Int32 × ea_M) → Prop} (hX : ∀ x7s : Int32 × ea_M, Ψ x7s → ea_Ev G F_X11_atLeast res 46 [none, none, none, some (.int x7s.1), none] [] x7s.2 0 0) : ∀ (f : Nat) (s7 : Int32 × Int32 × ea_M), ea_E G F_X11_atLeast res 7 [some (.ref 0), some (.int p1), some (.int p2), some (.int s7.1), some (.int s7.2.1)] [] s7.2.2 0 0 (ea_loop (f_X11_atLeast_s7 p1 p2) f s7) Ψ := by
  refine ev_loop (G := G) (F := F_X11_atLeast) (res := res) (pc := 7) (st := []) (k := 0) (n := 0) (step := (f_X11_atLeast_s7 p1 p2)) (Ψ := Ψ) (fun (s7 : Int32 × Int32 × ea_M) => [some (.ref 0), some (.int p1), some (.int p2), some (.int s7.1), some (.int s7.2.1)]) (fun (s7 : Int32 × Int32 × ea_M) => s7.2.2) (fun s7 => ?_)
  have hC : ∀ s7 : Int32 × Int32 × ea_M, (Sum.elim (fun s7 : Int32 × Int32 × ea_M => ea_Ev G F_X11_atLeast res 7 [some (.ref 0), some (.int p1), some (.int p2), some (.int s7.1), some (.int s7.2.1)] [] s7.2.2 0 0) Ψ) (.inl s7) → ea_Ev G F_X11_atLeast res 7 [some (.ref 0), some (.int p1), some (.int p2), some (.int s7.1), some (.int s7.2.1)] [] s7.2.2 0 0 := fun _ h => h
  have hX : ∀ x7s : Int32 × ea_M, (Sum.elim (fun s7 : Int32 × Int32 × ea_M => ea_Ev G F_X11_atLeast res 7 [some (.ref 0), some (.int p1), some (.int p2), some (.int s7.1), some (.int s7.2.1)] [] s7.2.2 0 0) Ψ) (.inr x7s) → ea_Ev G F_X11_atLeast res 46 [none, none, none, some (.int x7s.1), none] [] x7s.2 0 0 := hX
  unfold f_X11_atLeast_s7
  refine ev_iload (ea_at dt_X11_atLeast 4 rfl) rfl ?_
  refine ev_aload_n (ea_at dt_X11_atLeast 5 rfl) rfl ?_
  refine ev_getR (ea_at dt_X11_atLeast 6 rfl) fl_X11_23 sh_0 rfl ?_
  refine ev_getI (ea_at dt_X11_atLeast 7 rfl) fl_X11_233 sh_2 rfl ?_
  refine ev_i (fun x1 => ?_)
  refine ev_icmp_ge (tgt := 46) (ea_at dt_X11_atLeast 8 rfl) rfl (fun _ => ?_) (fun _ => ?_)
  · exact ev_leaf (fun h => ea_drop (l' := [none, none, none, some (.int s7.1), none]) ⟨Or.inl rfl, Or.inl rfl, Or.inl rfl, Or.inr rfl, Or.inl rfl, trivial⟩ (hX (s7.1, s7.2.2) h))
  · refine ev_iload_n (ea_at dt_X11_atLeast 9 rfl) rfl ?_
    refine ev_iload (ea_at dt_X11_atLeast 10 rfl) rfl ?_
    refine ev_ishr (ea_at dt_X11_atLeast 11 rfl) ?_
    refine ev_iconst (ea_at dt_X11_atLeast 12 rfl) ic_1 ?_
    refine ev_iand (ea_at dt_X11_atLeast 13 rfl) ?_
    refine ev_i (fun x2 => ?_)
    refine ev_if_eq (tgt := 40) (ea_at dt_X11_atLeast 14 rfl) rfl (fun _ => ?_) (fun _ => ?_)
    · exact ev_drop (l' := [some (.ref 0), some (.int p1), some (.int p2), some (.int s7.1), some (.int s7.2.1)]) ⟨Or.inr rfl, Or.inr rfl, Or.inr rfl, Or.inr rfl, Or.inr rfl, trivial⟩ (jn_X11_atLeast_40 G p1 p2 s7.1 s7.2.1 s7.2.2  hC hX)
    · refine ev_iload_n (ea_at dt_X11_atLeast 15 rfl) rfl ?_
      refine ev_aload_n (ea_at dt_X11_atLeast 16 rfl) rfl ?_
      refine ev_iload_n (ea_at dt_X11_atLeast 17 rfl) rfl ?_
      refine ev_iload (ea_at dt_X11_atLeast 18 rfl) rfl ?_
      refine ev_clI (F1 := F_X11_hasIt) (fun rY mY hY => ea_runV (As := [.int p1, .int s7.2.1]) (ea_at dt_X11_atLeast 19 rfl) ml_X11_364 mv_X11_hasIt (ok_X11_hasIt G p1 s7.2.1 s7.2.2  rY mY hY) sh_0 rfl rfl rfl (Nat.le_of_ble_eq_true rfl) rfl) rfl (fun r7 m6 => ?_)
      refine ev_mmin (ea_at dt_X11_atLeast 20 rfl) ml_X11_311 ea_maW_min ⟨by decide, Nat.le_of_ble_eq_true rfl, by decide, by decide⟩ ?_
      refine ev_i (fun x8 => ?_)
      refine ev_istore_n (ls' := [some (.ref 0), some (.int p1), some (.int p2), some (.int x8), some (.int s7.2.1)]) (ea_at dt_X11_atLeast 21 rfl) (ea_lt rfl) rfl ?_
      exact ev_drop (l' := [some (.ref 0), some (.int p1), some (.int p2), some (.int x8), some (.int s7.2.1)]) ⟨Or.inr rfl, Or.inr rfl, Or.inr rfl, Or.inr rfl, Or.inr rfl, trivial⟩ (jn_X11_atLeast_40 G p1 p2 x8 s7.2.1 m6  hC hX)
set_option maxHeartbeats 300000 in
theorem ok_X11_atLeast (G : ea_G) (p1 : Int32) (p2 : Int32) (m : ea_M)  (rZ : Int32) (mZ : ea_M) (hZ : f_X11_atLeast p1 p2 m = some (rZ, mZ)) : ea_Met G yX11_atLeast F_X11_atLeast [.ref 0, .int p1, .int p2] m (0, rZ, mZ) := by
  refine ea_met (F := F_X11_atLeast) (by decide +kernel) rfl rfl (Nat.le_of_ble_eq_true rfl) (by simp only [List.mem_cons, List.not_mem_nil, or_false]; intro v hv; rcases hv with rfl | rfl | rfl <;> rfl) ((?_ : ea_E G F_X11_atLeast (0, rZ, mZ) 0 [some (.ref 0), some (.int p1), some (.int p2), none, none] [] m 0 0 (f_X11_atLeast p1 p2 m) (fun t => t = (rZ, mZ))) (rZ, mZ) hZ rfl)
  have hR : ∀ t : Int32 × ea_M, t = (rZ, mZ) → ((0, rZ, mZ) : ea_O) = (0, t) := fun t h => by rw [h]
  unfold f_X11_atLeast
  refine ev_ldcw (ea_at dt_X11_atLeast 0 rfl) ki_X11_383 ?_
  refine ev_istore_n (ls' := [some (.ref 0), some (.int p1), some (.int p2), some (.int 43046721), none]) (ea_at dt_X11_atLeast 1 rfl) (ea_lt rfl) rfl ?_
  refine ev_iconst (ea_at dt_X11_atLeast 2 rfl) ic_0 ?_
  refine ev_istore (ls' := [some (.ref 0), some (.int p1), some (.int p2), some (.int 43046721), some (.int 0)]) (ea_at dt_X11_atLeast 3 rfl) (ea_lt rfl) rfl ?_
  refine ev_drop (l' := [some (.ref 0), some (.int p1), some (.int p2), some (.int 43046721), some (.int 0)]) ⟨Or.inr rfl, Or.inr rfl, Or.inr rfl, Or.inr rfl, Or.inr rfl, trivial⟩ ?_
  refine ev_bind (lp_X11_atLeast_7 G p1 p2   (fun x7s h => ?_) ea_fuel (43046721, 0, m))
  obtain ⟨t1, e1, q1⟩ := h
  refine (?_ : ea_E G F_X11_atLeast (0, rZ, mZ) 46 [none, none, none, some (.int x7s.1), none] [] x7s.2 0 0 _ (fun t => t = (rZ, mZ))) t1 e1 q1
  refine ev_iload_n (ea_at dt_X11_atLeast 24 rfl) rfl ?_
  refine ev_i2l (ea_at dt_X11_atLeast 25 rfl) ?_
  refine ev_ldc2 (ea_at dt_X11_atLeast 26 rfl) kl_X11_384 ?_
  refine ev_lmul (ea_at dt_X11_atLeast 27 rfl) ?_
  refine ev_ldc2 (ea_at dt_X11_atLeast 28 rfl) kl_X11_386 ?_
  refine ev_ldiv (ea_at dt_X11_atLeast 29 rfl) (by decide) ?_
  refine ev_l2i (ea_at dt_X11_atLeast 30 rfl) ?_
  refine ev_i (fun x9 => ?_)
  exact ev_iret (ea_at dt_X11_atLeast 31 rfl) rfl ⟨by decide, by decide⟩ (fun h => hR _ h)
def F_X11_surest : ea_F := (ea_rm 15 2 12, cX11_surest, RX11, some .int, 10, [], 2, 12)
def D_X11_surest : List (Nat × Instr × Nat) := [(0, .aload_n 0, 1), (1, .iload_n 1, 1), (2, .invokevirtual 377, 3), (5, .aload_n 0, 1), (6, .invokevirtual 316, 3), (9, .aload_n 0, 1), (10, .getfield 23, 3), (13, .getfield 180, 3), (16, .iload_n 1, 1), (17, .iload_n 2, 1), (18, .invokevirtual 205, 3), (21, .istore 4, 2), (23, .aload_n 0, 1), (24, .getfield 23, 3), (27, .getfield 180, 3), (30, .iload_n 1, 1), (31, .iload_n 2, 1), (32, .ifCond .ne 7, 3), (35, .iconst 1, 1), (36, .goto 4, 3), (39, .iconst 0, 1), (40, .invokevirtual 205, 3), (43, .istore 5, 2), (45, .iload 4, 2), (47, .ifCond .eq 8, 3), (50, .iload 5, 2), (52, .ifCond .ne 5, 3), (55, .iconst (-1), 1), (56, .ireturn, 1), (57, .iconst (-1), 1), (58, .istore 6, 2), (60, .iconst (-1), 1), (61, .istore 7, 2), (63, .iconst 0, 1), (64, .istore 8, 2), (66, .iload 8, 2), (68, .aload_n 0, 1), (69, .getfield 23, 3), (72, .getfield 233, 3), (75, .if_icmp .ge 47, 3), (78, .iload 4, 2), (80, .iload 8, 2), (82, .ishr, 1), (83, .iconst 1, 1), (84, .iand, 1), (85, .ifCond .ne 6, 3), (88, .goto 28, 3), (91, .aload_n 0, 1), (92, .iload 8, 2), (94, .iload 5, 2), (96, .invokevirtual 380, 3), (99, .istore 9, 2), (101, .iload 9, 2), (103, .iload 6, 2), (105, .if_icmp .le 11, 3), (108, .iload 9, 2), (110, .istore 6, 2), (112, .iload 8, 2), (114, .istore 7, 2), (116, .iinc 8 1, 3), (119, .goto (-53), 3), (122, .iload_n 3, 1), (123, .ifCond .eq 8, 3), (126, .iload 6, 2), (128, .goto 5, 3), (131, .iload 7, 2), (133, .ireturn, 1)]
theorem dt_X11_surest : ∀ q ∈ D_X11_surest, decode cX11_surest q.1 = .ok q.2 := by decide +kernel
theorem mv_X11_surest : ea_MV yX11_surest (F_X11_surest) 3 := ⟨⟨List.mem_append_right _ (List.mem_of_getElem? (i := 1) (by decide +kernel)), List.mem_append_right _ (List.mem_of_getElem? (i := 1261) (by decide +kernel)), ⟨by decide, by decide⟩, by decide +kernel⟩, List.mem_append_right _ (List.mem_of_getElem? (i := 1259) (by decide +kernel)), List.mem_append_right _ (List.mem_of_getElem? (i := 1260) (by decide +kernel))⟩
def f_X11_surest_j116 (p3 : Int32) (x7 : Int32) (r12 : Int32) (x15 : Int32) (x16 : Int32) (x17 : Int32) (m18 : ea_M) : Option ((Int32 × Int32 × Int32 × ea_M) ⊕ (Int32 × Int32 × ea_M)) :=
  some (.inl (x15, x16, x17 + 1, m18))
def f_X11_surest_s66 (p3 : Int32) (x7 : Int32) (r12 : Int32)  (s66 : Int32 × Int32 × Int32 × ea_M) : Option ((Int32 × Int32 × Int32 × ea_M) ⊕ (Int32 × Int32 × ea_M)) :=
  ea_bd (s66.2.2.2 2 8) fun x13 =>
  if x13 ≤ s66.2.2.1 then
  some (.inr (s66.1, s66.2.1, s66.2.2.2))
  else
  ea_bd ((x7 >>> (s66.2.2.1 &&& 31)) &&& 1) fun x14 =>
  if x14 = 0 then
  f_X11_surest_j116 p3 x7 r12 s66.1 s66.2.1 s66.2.2.1 s66.2.2.2
  else
  ea_cl (f_X11_atLeast s66.2.2.1 r12 s66.2.2.2) fun r20 m19 =>
  if r20 ≤ s66.1 then
  f_X11_surest_j116 p3 x7 r12 s66.1 s66.2.1 s66.2.2.1 m19
  else
  f_X11_surest_j116 p3 x7 r12 r20 s66.2.2.1 s66.2.2.1 m19
def f_X11_surest_j40 (p3 : Int32) (x7 : Int32) (x8 : Int32) (x9 : Int32) (m10 : ea_M) : Option (ea_O) :=
  ea_cl (f_X1_choices 8 x8 x9 m10) fun r12 m11 =>
  if x7 = 0 then
  some (0, (-1), m11)
  else
  if r12 = 0 then
  some (0, (-1), m11)
  else
  (ea_loop (f_X11_surest_s66 p3 x7 r12) ea_fuel ((-1), (-1), 0, m11)).bind (fun x66s =>
  if p3 = 0 then
  some (0, x66s.2.1, x66s.2.2)
  else
  some (0, x66s.1, x66s.2.2))
def f_X11_surest (p1 : Int32) (p2 : Int32) (p3 : Int32) (m : ea_M) : Option (ea_O) :=
  ea_cx (f_X11_needOpenCase p1 m) (fun r2 m1 =>
  ea_cl (f_X11_reckonFates m1) fun r4 m3 =>
  ea_cl (f_X1_choices 8 p1 p2 m3) fun r6 m5 =>
  if p2 = 0 then
  f_X11_surest_j40 p3 r6 p1 1 m5
  else
  f_X11_surest_j40 p3 r6 p1 0 m5) (fun kx mx => some (kx, 0, mx))
set_option maxHeartbeats 300000 in
theorem jn_X11_surest_116 (G : ea_G) {res : ea_O}  (p3 : Int32) (x7 : Int32) (r12 : Int32) (x15 : Int32) (x16 : Int32) (x17 : Int32) (m18 : ea_M)  {Φ : ((Int32 × Int32 × Int32 × ea_M) ⊕ (Int32 × Int32 × ea_M)) → Prop} (hC : ∀ s66 : Int32 × Int32 × Int32 × ea_M, Φ (.inl s66) → ea_Ev G F_X11_surest res 66 [some (.ref 0), none, none, some (.int p3), some (.int x7), some (.int r12), some (.int s66.1), some (.int s66.2.1), some (.int s66.2.2.1), none] [] s66.2.2.2 2 12) (hX : ∀ x66s : Int32 × Int32 × ea_M, Φ (.inr x66s) → ea_Ev G F_X11_surest res 122 [none, none, none, some (.int p3), none, none, some (.int x66s.1), some (.int x66s.2.1), none, none] [] x66s.2.2 2 12) : ea_E G F_X11_surest res 116 [some (.ref 0), none, none, some (.int p3), some (.int x7), some (.int r12), some (.int x15), some (.int x16), some (.int x17), none] [] m18 2 12 (f_X11_surest_j116 p3 x7 r12 x15 x16 x17 m18) Φ := by
  unfold f_X11_surest_j116
  refine ev_iinc (ls' := [some (.ref 0), none, none, some (.int p3), some (.int x7), some (.int r12), some (.int x15), some (.int x16), some (.int (x17 + 1)), none]) (ea_at dt_X11_surest 59 rfl) rfl (congrArg (fun z => _ + z) ic_1) (ea_lt rfl) rfl ?_
  refine ev_goto (tgt := 66) (ea_at dt_X11_surest 60 rfl) rfl ?_
  exact ev_leaf (fun h => ea_drop (l' := [some (.ref 0), none, none, some (.int p3), some (.int x7), some (.int r12), some (.int x15), some (.int x16), some (.int (x17 + 1)), none]) ⟨Or.inr rfl, Or.inl rfl, Or.inl rfl, Or.inr rfl, Or.inr rfl, Or.inr rfl, Or.inr rfl, Or.inr rfl, Or.inr rfl, Or.inl rfl, trivial⟩ (hC (x15, x16, x17 + 1, m18) h))
set_option maxHeartbeats 300000 in
theorem lp_X11_surest_66 (G : ea_G) {res : ea_O}  (p3 : Int32) (x7 : Int32) (r12 : Int32)  {Ψ : (Int32 × Int32 × ea_M) → Prop} (hX : ∀ x66s : Int32 × Int32 × ea_M, Ψ x66s → ea_Ev G F_X11_surest res 122 [none, none, none, some (.int p3), none, none, some (.int x66s.1), some (.int x66s.2.1), none, none] [] x66s.2.2 2 12) : ∀ (f : Nat) (s66 : Int32 × Int32 × Int32 × ea_M), ea_E G F_X11_surest res 66 [some (.ref 0), none, none, some (.int p3), some (.int x7), some (.int r12), some (.int s66.1), some (.int s66.2.1), some (.int s66.2.2.1), none] [] s66.2.2.2 2 12 (ea_loop (f_X11_surest_s66 p3 x7 r12) f s66) Ψ := by
  refine ev_loop (G := G) (F := F_X11_surest) (res := res) (pc := 66) (st := []) (k := 2) (n := 12) (step := (f_X11_surest_s66 p3 x7 r12)) (Ψ := Ψ) (fun (s66 : Int32 × Int32 × Int32 × ea_M) => [some (.ref 0), none, none, some (.int p3), some (.int x7), some (.int r12), some (.int s66.1), some (.int s66.2.1), some (.int s66.2.2.1), none]) (fun (s66 : Int32 × Int32 × Int32 × ea_M) => s66.2.2.2) (fun s66 => ?_)
  have hC : ∀ s66 : Int32 × Int32 × Int32 × ea_M, (Sum.elim (fun s66 : Int32 × Int32 × Int32 × ea_M => ea_Ev G F_X11_surest res 66 [some (.ref 0), none, none, some (.int p3), some (.int x7), some (.int r12), some (.int s66.1), some (.int s66.2.1), some (.int s66.2.2.1), none] [] s66.2.2.2 2 12) Ψ) (.inl s66) → ea_Ev G F_X11_surest res 66 [some (.ref 0), none, none, some (.int p3), some (.int x7), some (.int r12), some (.int s66.1), some (.int s66.2.1), some (.int s66.2.2.1), none] [] s66.2.2.2 2 12 := fun _ h => h
  have hX : ∀ x66s : Int32 × Int32 × ea_M, (Sum.elim (fun s66 : Int32 × Int32 × Int32 × ea_M => ea_Ev G F_X11_surest res 66 [some (.ref 0), none, none, some (.int p3), some (.int x7), some (.int r12), some (.int s66.1), some (.int s66.2.1), some (.int s66.2.2.1), none] [] s66.2.2.2 2 12) Ψ) (.inr x66s) → ea_Ev G F_X11_surest res 122 [none, none, none, some (.int p3), none, none, some (.int x66s.1), some (.int x66s.2.1), none, none] [] x66s.2.2 2 12 := hX
  unfold f_X11_surest_s66
  refine ev_iload (ea_at dt_X11_surest 35 rfl) rfl ?_
  refine ev_aload_n (ea_at dt_X11_surest 36 rfl) rfl ?_
  refine ev_getR (ea_at dt_X11_surest 37 rfl) fl_X11_23 sh_0 rfl ?_
  refine ev_getI (ea_at dt_X11_surest 38 rfl) fl_X11_233 sh_2 rfl ?_
  refine ev_i (fun x13 => ?_)
  refine ev_icmp_ge (tgt := 122) (ea_at dt_X11_surest 39 rfl) rfl (fun _ => ?_) (fun _ => ?_)
  · exact ev_leaf (fun h => ea_drop (l' := [none, none, none, some (.int p3), none, none, some (.int s66.1), some (.int s66.2.1), none, none]) ⟨Or.inl rfl, Or.inl rfl, Or.inl rfl, Or.inr rfl, Or.inl rfl, Or.inl rfl, Or.inr rfl, Or.inr rfl, Or.inl rfl, Or.inl rfl, trivial⟩ (hX (s66.1, s66.2.1, s66.2.2.2) h))
  · refine ev_iload (ea_at dt_X11_surest 40 rfl) rfl ?_
    refine ev_iload (ea_at dt_X11_surest 41 rfl) rfl ?_
    refine ev_ishr (ea_at dt_X11_surest 42 rfl) ?_
    refine ev_iconst (ea_at dt_X11_surest 43 rfl) ic_1 ?_
    refine ev_iand (ea_at dt_X11_surest 44 rfl) ?_
    refine ev_i (fun x14 => ?_)
    refine ev_if_ne (tgt := 91) (ea_at dt_X11_surest 45 rfl) rfl (fun _ => ?_) (fun _ => ?_)
    · refine ev_goto (tgt := 116) (ea_at dt_X11_surest 46 rfl) rfl ?_
      exact ev_drop (l' := [some (.ref 0), none, none, some (.int p3), some (.int x7), some (.int r12), some (.int s66.1), some (.int s66.2.1), some (.int s66.2.2.1), none]) ⟨Or.inr rfl, Or.inl rfl, Or.inl rfl, Or.inr rfl, Or.inr rfl, Or.inr rfl, Or.inr rfl, Or.inr rfl, Or.inr rfl, Or.inl rfl, trivial⟩ (jn_X11_surest_116 G p3 x7 r12 s66.1 s66.2.1 s66.2.2.1 s66.2.2.2  hC hX)
    · refine ev_aload_n (ea_at dt_X11_surest 47 rfl) rfl ?_
      refine ev_iload (ea_at dt_X11_surest 48 rfl) rfl ?_
      refine ev_iload (ea_at dt_X11_surest 49 rfl) rfl ?_
      refine ev_clI (F1 := F_X11_atLeast) (fun rY mY hY => ea_runV (As := [.int s66.2.2.1, .int r12]) (ea_at dt_X11_surest 50 rfl) ml_X11_380 mv_X11_atLeast (ok_X11_atLeast G s66.2.2.1 r12 s66.2.2.2  rY mY hY) sh_0 rfl rfl rfl (Nat.le_of_ble_eq_true rfl) rfl) rfl (fun r20 m19 => ?_)
      refine ev_istore (ls' := [some (.ref 0), none, none, some (.int p3), some (.int x7), some (.int r12), some (.int s66.1), some (.int s66.2.1), some (.int s66.2.2.1), some (.int r20)]) (ea_at dt_X11_surest 51 rfl) (ea_lt rfl) rfl ?_
      refine ev_iload (ea_at dt_X11_surest 52 rfl) rfl ?_
      refine ev_iload (ea_at dt_X11_surest 53 rfl) rfl ?_
      refine ev_icmp_le (tgt := 116) (ea_at dt_X11_surest 54 rfl) rfl (fun _ => ?_) (fun _ => ?_)
      · exact ev_drop (l' := [some (.ref 0), none, none, some (.int p3), some (.int x7), some (.int r12), some (.int s66.1), some (.int s66.2.1), some (.int s66.2.2.1), none]) ⟨Or.inr rfl, Or.inl rfl, Or.inl rfl, Or.inr rfl, Or.inr rfl, Or.inr rfl, Or.inr rfl, Or.inr rfl, Or.inr rfl, Or.inl rfl, trivial⟩ (jn_X11_surest_116 G p3 x7 r12 s66.1 s66.2.1 s66.2.2.1 m19  hC hX)
      · refine ev_iload (ea_at dt_X11_surest 55 rfl) rfl ?_
        refine ev_istore (ls' := [some (.ref 0), none, none, some (.int p3), some (.int x7), some (.int r12), some (.int r20), some (.int s66.2.1), some (.int s66.2.2.1), some (.int r20)]) (ea_at dt_X11_surest 56 rfl) (ea_lt rfl) rfl ?_
        refine ev_iload (ea_at dt_X11_surest 57 rfl) rfl ?_
        refine ev_istore (ls' := [some (.ref 0), none, none, some (.int p3), some (.int x7), some (.int r12), some (.int r20), some (.int s66.2.2.1), some (.int s66.2.2.1), some (.int r20)]) (ea_at dt_X11_surest 58 rfl) (ea_lt rfl) rfl ?_
        exact ev_drop (l' := [some (.ref 0), none, none, some (.int p3), some (.int x7), some (.int r12), some (.int r20), some (.int s66.2.2.1), some (.int s66.2.2.1), none]) ⟨Or.inr rfl, Or.inl rfl, Or.inl rfl, Or.inr rfl, Or.inr rfl, Or.inr rfl, Or.inr rfl, Or.inr rfl, Or.inr rfl, Or.inl rfl, trivial⟩ (jn_X11_surest_116 G p3 x7 r12 r20 s66.2.2.1 s66.2.2.1 m19  hC hX)
set_option maxHeartbeats 300000 in
theorem jn_X11_surest_40 (G : ea_G) {res : ea_O}  (p3 : Int32) (x7 : Int32) (x8 : Int32) (x9 : Int32) (m10 : ea_M)  {Φ : ea_O → Prop} (hR : ∀ t : ea_O, Φ t → res = t) : ea_E G F_X11_surest res 40 [some (.ref 0), none, none, some (.int p3), some (.int x7), none, none, none, none, none] [.int x9, .int x8, .ref 8] m10 2 12 (f_X11_surest_j40 p3 x7 x8 x9 m10) Φ := by
  unfold f_X11_surest_j40
  refine ev_clI (F1 := F_X1_choices) (fun rY mY hY => ea_runV (As := [.int x8, .int x9]) (ea_at dt_X11_surest 21 rfl) ml_X11_205 mv_X1_choices (ok_X1_choices G 8 x8 x9 m10 is_Bench_8 rY mY hY) sh_8 rfl rfl rfl (Nat.le_of_ble_eq_true rfl) rfl) rfl (fun r12 m11 => ?_)
  refine ev_istore (ls' := [some (.ref 0), none, none, some (.int p3), some (.int x7), some (.int r12), none, none, none, none]) (ea_at dt_X11_surest 22 rfl) (ea_lt rfl) rfl ?_
  refine ev_iload (ea_at dt_X11_surest 23 rfl) rfl ?_
  refine ev_if_eq (tgt := 55) (ea_at dt_X11_surest 24 rfl) rfl (fun _ => ?_) (fun _ => ?_)
  · refine ev_iconst (ea_at dt_X11_surest 27 rfl) ic_m1 ?_
    exact ev_iret (ea_at dt_X11_surest 28 rfl) rfl ⟨by decide, by decide⟩ (fun h => hR _ h)
  · refine ev_iload (ea_at dt_X11_surest 25 rfl) rfl ?_
    refine ev_if_ne (tgt := 57) (ea_at dt_X11_surest 26 rfl) rfl (fun _ => ?_) (fun _ => ?_)
    · refine ev_iconst (ea_at dt_X11_surest 27 rfl) ic_m1 ?_
      exact ev_iret (ea_at dt_X11_surest 28 rfl) rfl ⟨by decide, by decide⟩ (fun h => hR _ h)
    · refine ev_iconst (ea_at dt_X11_surest 29 rfl) ic_m1 ?_
      refine ev_istore (ls' := [some (.ref 0), none, none, some (.int p3), some (.int x7), some (.int r12), some (.int (-1)), none, none, none]) (ea_at dt_X11_surest 30 rfl) (ea_lt rfl) rfl ?_
      refine ev_iconst (ea_at dt_X11_surest 31 rfl) ic_m1 ?_
      refine ev_istore (ls' := [some (.ref 0), none, none, some (.int p3), some (.int x7), some (.int r12), some (.int (-1)), some (.int (-1)), none, none]) (ea_at dt_X11_surest 32 rfl) (ea_lt rfl) rfl ?_
      refine ev_iconst (ea_at dt_X11_surest 33 rfl) ic_0 ?_
      refine ev_istore (ls' := [some (.ref 0), none, none, some (.int p3), some (.int x7), some (.int r12), some (.int (-1)), some (.int (-1)), some (.int 0), none]) (ea_at dt_X11_surest 34 rfl) (ea_lt rfl) rfl ?_
      refine ev_drop (l' := [some (.ref 0), none, none, some (.int p3), some (.int x7), some (.int r12), some (.int (-1)), some (.int (-1)), some (.int 0), none]) ⟨Or.inr rfl, Or.inl rfl, Or.inl rfl, Or.inr rfl, Or.inr rfl, Or.inr rfl, Or.inr rfl, Or.inr rfl, Or.inr rfl, Or.inl rfl, trivial⟩ ?_
      refine ev_bind (lp_X11_surest_66 G p3 x7 r12   (fun x66s h => ?_) ea_fuel ((-1), (-1), 0, m11))
      obtain ⟨t1, e1, q1⟩ := h
      refine (?_ : ea_E G F_X11_surest res 122 [none, none, none, some (.int p3), none, none, some (.int x66s.1), some (.int x66s.2.1), none, none] [] x66s.2.2 2 12 _ Φ) t1 e1 q1
      refine ev_iload_n (ea_at dt_X11_surest 61 rfl) rfl ?_
      refine ev_if_eq (tgt := 131) (ea_at dt_X11_surest 62 rfl) rfl (fun _ => ?_) (fun _ => ?_)
      · refine ev_iload (ea_at dt_X11_surest 65 rfl) rfl ?_
        exact ev_iret (ea_at dt_X11_surest 66 rfl) rfl ⟨by decide, by decide⟩ (fun h => hR _ h)
      · refine ev_iload (ea_at dt_X11_surest 63 rfl) rfl ?_
        refine ev_goto (tgt := 133) (ea_at dt_X11_surest 64 rfl) rfl ?_
        exact ev_iret (ea_at dt_X11_surest 66 rfl) rfl ⟨by decide, by decide⟩ (fun h => hR _ h)
set_option maxHeartbeats 300000 in
theorem ok_X11_surest (G : ea_G) (p1 : Int32) (p2 : Int32) (p3 : Int32) (m : ea_M)  (zZ : ea_O) (hZ : f_X11_surest p1 p2 p3 m = some zZ) : ea_Met G yX11_surest F_X11_surest [.ref 0, .int p1, .int p2, .int p3] m zZ := by
  refine ea_met (F := F_X11_surest) (by decide +kernel) rfl rfl (Nat.le_of_ble_eq_true rfl) (by simp only [List.mem_cons, List.not_mem_nil, or_false]; intro v hv; rcases hv with rfl | rfl | rfl | rfl <;> rfl) ((?_ : ea_E G F_X11_surest zZ 0 [some (.ref 0), some (.int p1), some (.int p2), some (.int p3), none, none, none, none, none, none] [] m 0 0 (f_X11_surest p1 p2 p3 m) (fun t => t = zZ)) zZ hZ rfl)
  have hR : ∀ t : ea_O, t = zZ → zZ = t := fun t h => h.symm
  unfold f_X11_surest
  refine ev_aload_n (ea_at dt_X11_surest 0 rfl) rfl ?_
  refine ev_iload_n (ea_at dt_X11_surest 1 rfl) rfl ?_
  refine ev_cxU (F1 := F_X11_needOpenCase) rfl (fun zY hY => ea_runV (As := [.int p1]) (ea_at dt_X11_surest 2 rfl) ml_X11_377 mv_X11_needOpenCase (ok_X11_needOpenCase G p1 m  zY hY) sh_0 rfl rfl rfl (Nat.le_of_ble_eq_true rfl) rfl) rfl ⟨by decide, by decide⟩ (fun kx mx t e q => ⟨0, by cases e; exact hR _ q⟩) (fun r2 m1 => ?_)
  refine ev_aload_n (ea_at dt_X11_surest 3 rfl) rfl ?_
  refine ev_clU (F1 := F_X11_reckonFates) (fun rY mY hY => ea_runV (As := []) (ea_at dt_X11_surest 4 rfl) ml_X11_316 mv_X11_reckonFates (ok_X11_reckonFates G m1  rY mY hY) sh_0 rfl rfl rfl (Nat.le_of_ble_eq_true rfl) rfl) rfl (fun r4 m3 => ?_)
  refine ev_aload_n (ea_at dt_X11_surest 5 rfl) rfl ?_
  refine ev_getR (ea_at dt_X11_surest 6 rfl) fl_X11_23 sh_0 rfl ?_
  refine ev_getR (ea_at dt_X11_surest 7 rfl) fl_X11_180 sh_2 rfl ?_
  refine ev_iload_n (ea_at dt_X11_surest 8 rfl) rfl ?_
  refine ev_iload_n (ea_at dt_X11_surest 9 rfl) rfl ?_
  refine ev_clI (F1 := F_X1_choices) (fun rY mY hY => ea_runV (As := [.int p1, .int p2]) (ea_at dt_X11_surest 10 rfl) ml_X11_205 mv_X1_choices (ok_X1_choices G 8 p1 p2 m3 is_Bench_8 rY mY hY) sh_8 rfl rfl rfl (Nat.le_of_ble_eq_true rfl) rfl) rfl (fun r6 m5 => ?_)
  refine ev_istore (ls' := [some (.ref 0), some (.int p1), some (.int p2), some (.int p3), some (.int r6), none, none, none, none, none]) (ea_at dt_X11_surest 11 rfl) (ea_lt rfl) rfl ?_
  refine ev_aload_n (ea_at dt_X11_surest 12 rfl) rfl ?_
  refine ev_getR (ea_at dt_X11_surest 13 rfl) fl_X11_23 sh_0 rfl ?_
  refine ev_getR (ea_at dt_X11_surest 14 rfl) fl_X11_180 sh_2 rfl ?_
  refine ev_iload_n (ea_at dt_X11_surest 15 rfl) rfl ?_
  refine ev_iload_n (ea_at dt_X11_surest 16 rfl) rfl ?_
  refine ev_if_ne (tgt := 39) (ea_at dt_X11_surest 17 rfl) rfl (fun _ => ?_) (fun _ => ?_)
  · refine ev_iconst (ea_at dt_X11_surest 18 rfl) ic_1 ?_
    refine ev_goto (tgt := 40) (ea_at dt_X11_surest 19 rfl) rfl ?_
    exact ev_drop (l' := [some (.ref 0), none, none, some (.int p3), some (.int r6), none, none, none, none, none]) ⟨Or.inr rfl, Or.inl rfl, Or.inl rfl, Or.inr rfl, Or.inr rfl, Or.inl rfl, Or.inl rfl, Or.inl rfl, Or.inl rfl, Or.inl rfl, trivial⟩ (jn_X11_surest_40 G p3 r6 p1 1 m5  hR)
  · refine ev_iconst (ea_at dt_X11_surest 20 rfl) ic_0 ?_
    exact ev_drop (l' := [some (.ref 0), none, none, some (.int p3), some (.int r6), none, none, none, none, none]) ⟨Or.inr rfl, Or.inl rfl, Or.inl rfl, Or.inr rfl, Or.inr rfl, Or.inl rfl, Or.inl rfl, Or.inl rfl, Or.inl rfl, Or.inl rfl, trivial⟩ (jn_X11_surest_40 G p3 r6 p1 0 m5  hR)
def F_X11_isBestOf : ea_F := (ea_rm 10 0 0, cX11_isBestOf, RX11, some .boolean, 6, [], 0, 0)
def D_X11_isBestOf : List (Nat × Instr × Nat) := [(0, .aload_n 0, 1), (1, .iload_n 2, 1), (2, .iload_n 3, 1), (3, .invokevirtual 364, 3), (6, .istore 4, 2), (8, .iconst 0, 1), (9, .istore 5, 2), (11, .iload 5, 2), (13, .aload_n 0, 1), (14, .getfield 23, 3), (17, .getfield 233, 3), (20, .if_icmp .ge 32, 3), (23, .iload_n 1, 1), (24, .iload 5, 2), (26, .ishr, 1), (27, .iconst 1, 1), (28, .iand, 1), (29, .ifCond .eq 17, 3), (32, .aload_n 0, 1), (33, .iload 5, 2), (35, .iload_n 3, 1), (36, .invokevirtual 364, 3), (39, .iload 4, 2), (41, .if_icmp .le 5, 3), (44, .iconst 0, 1), (45, .ireturn, 1), (46, .iinc 5 1, 3), (49, .goto (-38), 3), (52, .iconst 1, 1), (53, .ireturn, 1)]
theorem dt_X11_isBestOf : ∀ q ∈ D_X11_isBestOf, decode cX11_isBestOf q.1 = .ok q.2 := by decide +kernel
theorem mv_X11_isBestOf : ea_MV yX11_isBestOf (F_X11_isBestOf) 3 := ⟨⟨List.mem_append_right _ (List.mem_of_getElem? (i := 1) (by decide +kernel)), List.mem_append_right _ (List.mem_of_getElem? (i := 1284) (by decide +kernel)), ⟨by decide, by decide⟩, by decide +kernel⟩, List.mem_append_right _ (List.mem_of_getElem? (i := 1283) (by decide +kernel)), List.mem_append_left _ (List.mem_of_getElem? (i := 36) (by decide +kernel))⟩
def f_X11_isBestOf_j46 (p1 : Int32) (p3 : Int32) (r2 : Int32) (x5 : Int32) (m6 : ea_M) : Option ((Int32 × ea_M) ⊕ ((Int32 × ea_M) ⊕ (ea_M))) :=
  some (.inl (x5 + 1, m6))
def f_X11_isBestOf_s11 (p1 : Int32) (p3 : Int32) (r2 : Int32)  (s11 : Int32 × ea_M) : Option ((Int32 × ea_M) ⊕ ((Int32 × ea_M) ⊕ (ea_M))) :=
  ea_bd (s11.2 2 8) fun x3 =>
  if x3 ≤ s11.1 then
  some (.inr (.inr s11.2))
  else
  ea_bd ((p1 >>> (s11.1 &&& 31)) &&& 1) fun x4 =>
  if x4 = 0 then
  f_X11_isBestOf_j46 p1 p3 r2 s11.1 s11.2
  else
  ea_cl (f_X11_hasIt s11.1 p3 s11.2) fun r8 m7 =>
  if r8 ≤ r2 then
  f_X11_isBestOf_j46 p1 p3 r2 s11.1 m7
  else
  some (.inr (.inl (0, m7)))
def f_X11_isBestOf (p1 : Int32) (p2 : Int32) (p3 : Int32) (m : ea_M) : Option (Int32 × ea_M) :=
  ea_cl (f_X11_hasIt p2 p3 m) fun r2 m1 =>
  ea_sl (ea_loop (f_X11_isBestOf_s11 p1 p3 r2) ea_fuel (0, m1)) (fun t => some t) (fun x11s =>
  some (1, x11s))
set_option maxHeartbeats 300000 in
theorem jn_X11_isBestOf_46 (G : ea_G) {res : ea_O}  (p1 : Int32) (p3 : Int32) (r2 : Int32) (x5 : Int32) (m6 : ea_M)  {Φ : ((Int32 × ea_M) ⊕ ((Int32 × ea_M) ⊕ (ea_M))) → Prop} (hC : ∀ s11 : Int32 × ea_M, Φ (.inl s11) → ea_Ev G F_X11_isBestOf res 11 [some (.ref 0), some (.int p1), none, some (.int p3), some (.int r2), some (.int s11.1)] [] s11.2 0 0) (hR : ∀ t : Int32 × ea_M, Φ (.inr (.inl t)) → res = (0, t)) (hX : ∀ x11s : ea_M, Φ (.inr (.inr x11s)) → ea_Ev G F_X11_isBestOf res 52 [none, none, none, none, none, none] [] x11s 0 0) : ea_E G F_X11_isBestOf res 46 [some (.ref 0), some (.int p1), none, some (.int p3), some (.int r2), some (.int x5)] [] m6 0 0 (f_X11_isBestOf_j46 p1 p3 r2 x5 m6) Φ := by
  unfold f_X11_isBestOf_j46
  refine ev_iinc (ls' := [some (.ref 0), some (.int p1), none, some (.int p3), some (.int r2), some (.int (x5 + 1))]) (ea_at dt_X11_isBestOf 26 rfl) rfl (congrArg (fun z => _ + z) ic_1) (ea_lt rfl) rfl ?_
  refine ev_goto (tgt := 11) (ea_at dt_X11_isBestOf 27 rfl) rfl ?_
  exact ev_leaf (fun h => ea_drop (l' := [some (.ref 0), some (.int p1), none, some (.int p3), some (.int r2), some (.int (x5 + 1))]) ⟨Or.inr rfl, Or.inr rfl, Or.inl rfl, Or.inr rfl, Or.inr rfl, Or.inr rfl, trivial⟩ (hC (x5 + 1, m6) h))
set_option maxHeartbeats 300000 in
theorem lp_X11_isBestOf_11 (G : ea_G) {res : ea_O}  (p1 : Int32) (p3 : Int32) (r2 : Int32)  {Ψ : ((Int32 × ea_M) ⊕ (ea_M)) → Prop} (hR : ∀ t : Int32 × ea_M, Ψ (.inl t) → res = (0, t)) (hX : ∀ x11s : ea_M, Ψ (.inr x11s) → ea_Ev G F_X11_isBestOf res 52 [none, none, none, none, none, none] [] x11s 0 0) : ∀ (f : Nat) (s11 : Int32 × ea_M), ea_E G F_X11_isBestOf res 11 [some (.ref 0), some (.int p1), none, some (.int p3), some (.int r2), some (.int s11.1)] [] s11.2 0 0 (ea_loop (f_X11_isBestOf_s11 p1 p3 r2) f s11) Ψ := by
  refine ev_loop (G := G) (F := F_X11_isBestOf) (res := res) (pc := 11) (st := []) (k := 0) (n := 0) (step := (f_X11_isBestOf_s11 p1 p3 r2)) (Ψ := Ψ) (fun (s11 : Int32 × ea_M) => [some (.ref 0), some (.int p1), none, some (.int p3), some (.int r2), some (.int s11.1)]) (fun (s11 : Int32 × ea_M) => s11.2) (fun s11 => ?_)
  have hC : ∀ s11 : Int32 × ea_M, (Sum.elim (fun s11 : Int32 × ea_M => ea_Ev G F_X11_isBestOf res 11 [some (.ref 0), some (.int p1), none, some (.int p3), some (.int r2), some (.int s11.1)] [] s11.2 0 0) Ψ) (.inl s11) → ea_Ev G F_X11_isBestOf res 11 [some (.ref 0), some (.int p1), none, some (.int p3), some (.int r2), some (.int s11.1)] [] s11.2 0 0 := fun _ h => h
  have hR : ∀ t : Int32 × ea_M, (Sum.elim (fun s11 : Int32 × ea_M => ea_Ev G F_X11_isBestOf res 11 [some (.ref 0), some (.int p1), none, some (.int p3), some (.int r2), some (.int s11.1)] [] s11.2 0 0) Ψ) (.inr (.inl t)) → res = (0, t) := hR
  have hX : ∀ x11s : ea_M, (Sum.elim (fun s11 : Int32 × ea_M => ea_Ev G F_X11_isBestOf res 11 [some (.ref 0), some (.int p1), none, some (.int p3), some (.int r2), some (.int s11.1)] [] s11.2 0 0) Ψ) (.inr (.inr x11s)) → ea_Ev G F_X11_isBestOf res 52 [none, none, none, none, none, none] [] x11s 0 0 := hX
  unfold f_X11_isBestOf_s11
  refine ev_iload (ea_at dt_X11_isBestOf 7 rfl) rfl ?_
  refine ev_aload_n (ea_at dt_X11_isBestOf 8 rfl) rfl ?_
  refine ev_getR (ea_at dt_X11_isBestOf 9 rfl) fl_X11_23 sh_0 rfl ?_
  refine ev_getI (ea_at dt_X11_isBestOf 10 rfl) fl_X11_233 sh_2 rfl ?_
  refine ev_i (fun x3 => ?_)
  refine ev_icmp_ge (tgt := 52) (ea_at dt_X11_isBestOf 11 rfl) rfl (fun _ => ?_) (fun _ => ?_)
  · exact ev_leaf (fun h => ea_drop (l' := [none, none, none, none, none, none]) ⟨Or.inl rfl, Or.inl rfl, Or.inl rfl, Or.inl rfl, Or.inl rfl, Or.inl rfl, trivial⟩ (hX s11.2 h))
  · refine ev_iload_n (ea_at dt_X11_isBestOf 12 rfl) rfl ?_
    refine ev_iload (ea_at dt_X11_isBestOf 13 rfl) rfl ?_
    refine ev_ishr (ea_at dt_X11_isBestOf 14 rfl) ?_
    refine ev_iconst (ea_at dt_X11_isBestOf 15 rfl) ic_1 ?_
    refine ev_iand (ea_at dt_X11_isBestOf 16 rfl) ?_
    refine ev_i (fun x4 => ?_)
    refine ev_if_eq (tgt := 46) (ea_at dt_X11_isBestOf 17 rfl) rfl (fun _ => ?_) (fun _ => ?_)
    · exact ev_drop (l' := [some (.ref 0), some (.int p1), none, some (.int p3), some (.int r2), some (.int s11.1)]) ⟨Or.inr rfl, Or.inr rfl, Or.inl rfl, Or.inr rfl, Or.inr rfl, Or.inr rfl, trivial⟩ (jn_X11_isBestOf_46 G p1 p3 r2 s11.1 s11.2  hC hR hX)
    · refine ev_aload_n (ea_at dt_X11_isBestOf 18 rfl) rfl ?_
      refine ev_iload (ea_at dt_X11_isBestOf 19 rfl) rfl ?_
      refine ev_iload_n (ea_at dt_X11_isBestOf 20 rfl) rfl ?_
      refine ev_clI (F1 := F_X11_hasIt) (fun rY mY hY => ea_runV (As := [.int s11.1, .int p3]) (ea_at dt_X11_isBestOf 21 rfl) ml_X11_364 mv_X11_hasIt (ok_X11_hasIt G s11.1 p3 s11.2  rY mY hY) sh_0 rfl rfl rfl (Nat.le_of_ble_eq_true rfl) rfl) rfl (fun r8 m7 => ?_)
      refine ev_iload (ea_at dt_X11_isBestOf 22 rfl) rfl ?_
      refine ev_icmp_le (tgt := 46) (ea_at dt_X11_isBestOf 23 rfl) rfl (fun _ => ?_) (fun _ => ?_)
      · exact ev_drop (l' := [some (.ref 0), some (.int p1), none, some (.int p3), some (.int r2), some (.int s11.1)]) ⟨Or.inr rfl, Or.inr rfl, Or.inl rfl, Or.inr rfl, Or.inr rfl, Or.inr rfl, trivial⟩ (jn_X11_isBestOf_46 G p1 p3 r2 s11.1 m7  hC hR hX)
      · refine ev_iconst (ea_at dt_X11_isBestOf 24 rfl) ic_0 ?_
        exact ev_zret (by decide) (ea_at dt_X11_isBestOf 25 rfl) rfl ⟨by decide, by decide⟩ (fun h => hR _ h)
set_option maxHeartbeats 300000 in
theorem ok_X11_isBestOf (G : ea_G) (p1 : Int32) (p2 : Int32) (p3 : Int32) (m : ea_M)  (rZ : Int32) (mZ : ea_M) (hZ : f_X11_isBestOf p1 p2 p3 m = some (rZ, mZ)) : ea_Met G yX11_isBestOf F_X11_isBestOf [.ref 0, .int p1, .int p2, .int p3] m (0, rZ, mZ) := by
  refine ea_met (F := F_X11_isBestOf) (by decide +kernel) rfl rfl (Nat.le_of_ble_eq_true rfl) (by simp only [List.mem_cons, List.not_mem_nil, or_false]; intro v hv; rcases hv with rfl | rfl | rfl | rfl <;> rfl) ((?_ : ea_E G F_X11_isBestOf (0, rZ, mZ) 0 [some (.ref 0), some (.int p1), some (.int p2), some (.int p3), none, none] [] m 0 0 (f_X11_isBestOf p1 p2 p3 m) (fun t => t = (rZ, mZ))) (rZ, mZ) hZ rfl)
  have hR : ∀ t : Int32 × ea_M, t = (rZ, mZ) → ((0, rZ, mZ) : ea_O) = (0, t) := fun t h => by rw [h]
  unfold f_X11_isBestOf
  refine ev_aload_n (ea_at dt_X11_isBestOf 0 rfl) rfl ?_
  refine ev_iload_n (ea_at dt_X11_isBestOf 1 rfl) rfl ?_
  refine ev_iload_n (ea_at dt_X11_isBestOf 2 rfl) rfl ?_
  refine ev_clI (F1 := F_X11_hasIt) (fun rY mY hY => ea_runV (As := [.int p2, .int p3]) (ea_at dt_X11_isBestOf 3 rfl) ml_X11_364 mv_X11_hasIt (ok_X11_hasIt G p2 p3 m  rY mY hY) sh_0 rfl rfl rfl (Nat.le_of_ble_eq_true rfl) rfl) rfl (fun r2 m1 => ?_)
  refine ev_istore (ls' := [some (.ref 0), some (.int p1), some (.int p2), some (.int p3), some (.int r2), none]) (ea_at dt_X11_isBestOf 4 rfl) (ea_lt rfl) rfl ?_
  refine ev_iconst (ea_at dt_X11_isBestOf 5 rfl) ic_0 ?_
  refine ev_istore (ls' := [some (.ref 0), some (.int p1), some (.int p2), some (.int p3), some (.int r2), some (.int 0)]) (ea_at dt_X11_isBestOf 6 rfl) (ea_lt rfl) rfl ?_
  refine ev_drop (l' := [some (.ref 0), some (.int p1), none, some (.int p3), some (.int r2), some (.int 0)]) ⟨Or.inr rfl, Or.inr rfl, Or.inl rfl, Or.inr rfl, Or.inr rfl, Or.inr rfl, trivial⟩ ?_
  refine ev_sl (lp_X11_isBestOf_11 G p1 p3 r2  (fun t h => by obtain ⟨t1, e1, q1⟩ := h; cases e1; exact hR t q1) (fun x11s h => ?_) ea_fuel (0, m1))
  obtain ⟨t1, e1, q1⟩ := h
  refine (?_ : ea_E G F_X11_isBestOf (0, rZ, mZ) 52 [none, none, none, none, none, none] [] x11s 0 0 _ (fun t => t = (rZ, mZ))) t1 e1 q1
  refine ev_iconst (ea_at dt_X11_isBestOf 28 rfl) ic_1 ?_
  exact ev_zret (by decide) (ea_at dt_X11_isBestOf 29 rfl) rfl ⟨by decide, by decide⟩ (fun h => hR _ h)
