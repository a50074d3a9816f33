def F_X12_sumOf : ea_F := (ea_rm 12 0 0, cX12_sumOf, RX12, some .int, 4, [], 0, 0)
def D_X12_sumOf : List (Nat × Instr × Nat) := [(0, .iconst 0, 1), (1, .istore_n 2, 1), (2, .iconst 0, 1), (3, .istore_n 3, 1), (4, .aload_n 0, 1), (5, .getfield 13, 3), (8, .iconst 4, 1), (9, .iaload, 1), (10, .iconst 1, 1), (11, .if_icmp .ne 62, 3), (14, .iload_n 3, 1), (15, .aload_n 0, 1), (16, .getfield 13, 3), (19, .sipush 482, 3), (22, .iaload, 1), (23, .if_icmp .ge 50, 3), (26, .aload_n 0, 1), (27, .getfield 13, 3), (30, .sipush 483, 3), (33, .iconst 4, 1), (34, .iload_n 3, 1), (35, .imul, 1), (36, .iadd, 1), (37, .iaload, 1), (38, .iload_n 1, 1), (39, .if_icmp .ne 28, 3), (42, .aload_n 0, 1), (43, .iload_n 3, 1), (44, .invokevirtual 289, 3), (47, .ifCond .eq 20, 3), (50, .iload_n 2, 1), (51, .aload_n 0, 1), (52, .getfield 13, 3), (55, .sipush 483, 3), (58, .iconst 4, 1), (59, .iload_n 3, 1), (60, .imul, 1), (61, .iadd, 1), (62, .iconst 1, 1), (63, .iadd, 1), (64, .iaload, 1), (65, .iadd, 1), (66, .istore_n 2, 1), (67, .iinc 3 1, 3), (70, .goto (-66), 3), (73, .iload_n 2, 1), (74, .ireturn, 1)]
theorem dt_X12_sumOf : ∀ q ∈ D_X12_sumOf, decode cX12_sumOf q.1 = .ok q.2 := by decide +kernel
theorem mv_X12_sumOf : ea_MV yX12_sumOf (F_X12_sumOf) 1 := ⟨⟨List.mem_append_right _ (List.mem_of_getElem? (i := 13) (by decide +kernel)), List.mem_append_right _ (List.mem_of_getElem? (i := 1727) (by decide +kernel)), ⟨by decide, by decide⟩, by decide +kernel⟩, List.mem_append_right _ (List.mem_of_getElem? (i := 1726) (by decide +kernel)), List.mem_append_left _ (List.mem_of_getElem? (i := 78) (by decide +kernel))⟩
def f_X12_sumOf_j67 (p1 : Int32) (x7 : Int32) (x8 : Int32) (m9 : ea_M) : Option ((Int32 × Int32 × ea_M) ⊕ (Int32 × ea_M)) :=
  some (.inl (x7, x8 + 1, m9))
def f_X12_sumOf_s4 (p1 : Int32)  (s4 : Int32 × Int32 × ea_M) : Option ((Int32 × Int32 × ea_M) ⊕ (Int32 × ea_M)) :=
  ea_bd (s4.2.2 273 4) fun x1 =>
  if x1 = 1 then
  ea_bd (s4.2.2 273 482) fun x2 =>
  if x2 ≤ s4.2.1 then
  some (.inr (s4.1, s4.2.2))
  else
  ea_bd (483 + (4 * s4.2.1)) fun x3 =>
  ea_g x3 2180 (ea_bd (s4.2.2 273 (Int32.toNatClampNeg x3)) fun x4 =>
  if x4 = p1 then
  ea_cl (f_X12_holdsLine s4.2.1 s4.2.2) fun r6 m5 =>
  if r6 = 0 then
  f_X12_sumOf_j67 p1 s4.1 s4.2.1 m5
  else
  ea_bd (483 + (4 * s4.2.1)) fun x10 =>
  ea_g (x10 + 1) 2180 (ea_bd (m5 273 (Int32.toNatClampNeg (x10 + 1))) fun x11 =>
  ea_bd (s4.1 + x11) fun x12 =>
  f_X12_sumOf_j67 p1 x12 s4.2.1 m5)
  else
  f_X12_sumOf_j67 p1 s4.1 s4.2.1 s4.2.2)
  else
  some (.inr (s4.1, s4.2.2))
def f_X12_sumOf (p1 : Int32) (m : ea_M) : Option (Int32 × ea_M) :=
  (ea_loop (f_X12_sumOf_s4 p1) ea_fuel (0, 0, m)).bind (fun x4s =>
  some (x4s.1, x4s.2))
set_option maxHeartbeats 300000 in
theorem jn_X12_sumOf_67 (G : ea_G) {res : ea_O}  (p1 : Int32) (x7 : Int32) (x8 : Int32) (m9 : ea_M)  {Φ : ((Int32 × Int32 × ea_M) ⊕ (Int32 × ea_M)) → Prop} (hC : ∀ s4 : Int32 × Int32 × ea_M, Φ (.inl s4) → ea_Ev G F_X12_sumOf res 4 [some (.ref 272), some (.int p1), some (.int s4.1), some (.int s4.2.1)] [] s4.2.2 0 0) (hX : ∀ x4s : Int32 × ea_M, Φ (.inr x4s) → ea_Ev G F_X12_sumOf res 73 [none, none, some (.int x4s.1), none] [] x4s.2 0 0) : ea_E G F_X12_sumOf res 67 [some (.ref 272), some (.int p1), some (.int x7), some (.int x8)] [] m9 0 0 (f_X12_sumOf_j67 p1 x7 x8 m9) Φ := by
  unfold f_X12_sumOf_j67
  refine ev_iinc (ls' := [some (.ref 272), some (.int p1), some (.int x7), some (.int (x8 + 1))]) (ea_at dt_X12_sumOf 43 rfl) rfl (congrArg (fun z => _ + z) ic_1) (ea_lt rfl) rfl ?_
  refine ev_goto (tgt := 4) (ea_at dt_X12_sumOf 44 rfl) rfl ?_
  exact ev_leaf (fun h => ea_drop (l' := [some (.ref 272), some (.int p1), some (.int x7), some (.int (x8 + 1))]) ⟨Or.inr rfl, Or.inr rfl, Or.inr rfl, Or.inr rfl, trivial⟩ (hC (x7, x8 + 1, m9) h))
set_option maxHeartbeats 300000 in
theorem lp_X12_sumOf_4 (G : ea_G) {res : ea_O}  (p1 : Int32)  {Ψ : (Int32 × ea_M) → Prop} (hX : ∀ x4s : Int32 × ea_M, Ψ x4s → ea_Ev G F_X12_sumOf res 73 [none, none, some (.int x4s.1), none] [] x4s.2 0 0) : ∀ (f : Nat) (s4 : Int32 × Int32 × ea_M), ea_E G F_X12_sumOf res 4 [some (.ref 272), some (.int p1), some (.int s4.1), some (.int s4.2.1)] [] s4.2.2 0 0 (ea_loop (f_X12_sumOf_s4 p1) f s4) Ψ := by
  refine ev_loop (G := G) (F := F_X12_sumOf) (res := res) (pc := 4) (st := []) (k := 0) (n := 0) (step := (f_X12_sumOf_s4 p1)) (Ψ := Ψ) (fun (s4 : Int32 × Int32 × ea_M) => [some (.ref 272), some (.int p1), some (.int s4.1), some (.int s4.2.1)]) (fun (s4 : Int32 × Int32 × ea_M) => s4.2.2) (fun s4 => ?_)
  have hC : ∀ s4 : Int32 × Int32 × ea_M, (Sum.elim (fun s4 : Int32 × Int32 × ea_M => ea_Ev G F_X12_sumOf res 4 [some (.ref 272), some (.int p1), some (.int s4.1), some (.int s4.2.1)] [] s4.2.2 0 0) Ψ) (.inl s4) → ea_Ev G F_X12_sumOf res 4 [some (.ref 272), some (.int p1), some (.int s4.1), some (.int s4.2.1)] [] s4.2.2 0 0 := fun _ h => h
  have hX : ∀ x4s : Int32 × ea_M, (Sum.elim (fun s4 : Int32 × Int32 × ea_M => ea_Ev G F_X12_sumOf res 4 [some (.ref 272), some (.int p1), some (.int s4.1), some (.int s4.2.1)] [] s4.2.2 0 0) Ψ) (.inr x4s) → ea_Ev G F_X12_sumOf res 73 [none, none, some (.int x4s.1), none] [] x4s.2 0 0 := hX
  unfold f_X12_sumOf_s4
  refine ev_aload_n (ea_at dt_X12_sumOf 4 rfl) rfl ?_
  refine ev_getR (ea_at dt_X12_sumOf 5 rfl) fl_X12_13 sh_272 rfl ?_
  refine ev_iconst (ea_at dt_X12_sumOf 6 rfl) ic_4 ?_
  refine ev_ialoadC (j := 4) (ea_at dt_X12_sumOf 7 rfl) sh_273 (by decide) (by decide) (by decide) (by decide) ?_
  refine ev_i (fun x1 => ?_)
  refine ev_iconst (ea_at dt_X12_sumOf 8 rfl) ic_1 ?_
  refine ev_icmp_ne (tgt := 73) (ea_at dt_X12_sumOf 9 rfl) rfl (fun _ => ?_) (fun _ => ?_)
  · refine ev_iload_n (ea_at dt_X12_sumOf 10 rfl) rfl ?_
    refine ev_aload_n (ea_at dt_X12_sumOf 11 rfl) rfl ?_
    refine ev_getR (ea_at dt_X12_sumOf 12 rfl) fl_X12_13 sh_272 rfl ?_
    refine ev_sipush (ea_at dt_X12_sumOf 13 rfl) sp_482 ?_
    refine ev_ialoadC (j := 482) (ea_at dt_X12_sumOf 14 rfl) sh_273 (by decide) (by decide) (by decide) (by decide) ?_
    refine ev_i (fun x2 => ?_)
    refine ev_icmp_ge (tgt := 73) (ea_at dt_X12_sumOf 15 rfl) rfl (fun _ => ?_) (fun _ => ?_)
    · exact ev_leaf (fun h => ea_drop (l' := [none, none, some (.int s4.1), none]) ⟨Or.inl rfl, Or.inl rfl, Or.inr rfl, Or.inl rfl, trivial⟩ (hX (s4.1, s4.2.2) h))
    · refine ev_aload_n (ea_at dt_X12_sumOf 16 rfl) rfl ?_
      refine ev_getR (ea_at dt_X12_sumOf 17 rfl) fl_X12_13 sh_272 rfl ?_
      refine ev_sipush (ea_at dt_X12_sumOf 18 rfl) sp_483 ?_
      refine ev_iconst (ea_at dt_X12_sumOf 19 rfl) ic_4 ?_
      refine ev_iload_n (ea_at dt_X12_sumOf 20 rfl) rfl ?_
      refine ev_imul (ea_at dt_X12_sumOf 21 rfl) ?_
      refine ev_iadd (ea_at dt_X12_sumOf 22 rfl) ?_
      refine ev_i (fun x3 => ?_)
      refine ev_iaload (ea_at dt_X12_sumOf 23 rfl) sh_273 (by decide) ?_
      refine ev_i (fun x4 => ?_)
      refine ev_iload_n (ea_at dt_X12_sumOf 24 rfl) rfl ?_
      refine ev_icmp_ne (tgt := 67) (ea_at dt_X12_sumOf 25 rfl) rfl (fun _ => ?_) (fun _ => ?_)
      · refine ev_aload_n (ea_at dt_X12_sumOf 26 rfl) rfl ?_
        refine ev_iload_n (ea_at dt_X12_sumOf 27 rfl) rfl ?_
        refine ev_clI (F1 := F_X12_holdsLine) (fun rY mY hY => ea_runV (As := [.int s4.2.1]) (ea_at dt_X12_sumOf 28 rfl) ml_X12_289 mv_X12_holdsLine (ok_X12_holdsLine G s4.2.1 s4.2.2  rY mY hY) sh_272 rfl rfl rfl (Nat.le_of_ble_eq_true rfl) rfl) rfl (fun r6 m5 => ?_)
        refine ev_if_eq (tgt := 67) (ea_at dt_X12_sumOf 29 rfl) rfl (fun _ => ?_) (fun _ => ?_)
        · exact ev_drop (l' := [some (.ref 272), some (.int p1), some (.int s4.1), some (.int s4.2.1)]) ⟨Or.inr rfl, Or.inr rfl, Or.inr rfl, Or.inr rfl, trivial⟩ (jn_X12_sumOf_67 G p1 s4.1 s4.2.1 m5  hC hX)
        · refine ev_iload_n (ea_at dt_X12_sumOf 30 rfl) rfl ?_
          refine ev_aload_n (ea_at dt_X12_sumOf 31 rfl) rfl ?_
          refine ev_getR (ea_at dt_X12_sumOf 32 rfl) fl_X12_13 sh_272 rfl ?_
          refine ev_sipush (ea_at dt_X12_sumOf 33 rfl) sp_483 ?_
          refine ev_iconst (ea_at dt_X12_sumOf 34 rfl) ic_4 ?_
          refine ev_iload_n (ea_at dt_X12_sumOf 35 rfl) rfl ?_
          refine ev_imul (ea_at dt_X12_sumOf 36 rfl) ?_
          refine ev_iadd (ea_at dt_X12_sumOf 37 rfl) ?_
          refine ev_i (fun x10 => ?_)
          refine ev_iconst (ea_at dt_X12_sumOf 38 rfl) ic_1 ?_
          refine ev_iadd (ea_at dt_X12_sumOf 39 rfl) ?_
          refine ev_iaload (ea_at dt_X12_sumOf 40 rfl) sh_273 (by decide) ?_
          refine ev_i (fun x11 => ?_)
          refine ev_iadd (ea_at dt_X12_sumOf 41 rfl) ?_
          refine ev_i (fun x12 => ?_)
          refine ev_istore_n (ls' := [some (.ref 272), some (.int p1), some (.int x12), some (.int s4.2.1)]) (ea_at dt_X12_sumOf 42 rfl) (ea_lt rfl) rfl ?_
          exact ev_drop (l' := [some (.ref 272), some (.int p1), some (.int x12), some (.int s4.2.1)]) ⟨Or.inr rfl, Or.inr rfl, Or.inr rfl, Or.inr rfl, trivial⟩ (jn_X12_sumOf_67 G p1 x12 s4.2.1 m5  hC hX)
      · exact ev_drop (l' := [some (.ref 272), some (.int p1), some (.int s4.1), some (.int s4.2.1)]) ⟨Or.inr rfl, Or.inr rfl, Or.inr rfl, Or.inr rfl, trivial⟩ (jn_X12_sumOf_67 G p1 s4.1 s4.2.1 s4.2.2  hC hX)
  · exact ev_leaf (fun h => ea_drop (l' := [none, none, some (.int s4.1), none]) ⟨Or.inl rfl, Or.inl rfl, Or.inr rfl, Or.inl rfl, trivial⟩ (hX (s4.1, s4.2.2) h))
set_option maxHeartbeats 300000 in
theorem ok_X12_sumOf (G : ea_G) (p1 : Int32) (m : ea_M)  (rZ : Int32) (mZ : ea_M) (hZ : f_X12_sumOf p1 m = some (rZ, mZ)) : ea_Met G yX12_sumOf F_X12_sumOf [.ref 272, .int p1] m (0, rZ, mZ) := by
  refine ea_met (F := F_X12_sumOf) (by decide +kernel) rfl rfl (Nat.le_of_ble_eq_true rfl) (by simp only [List.mem_cons, List.not_mem_nil, or_false]; intro v hv; rcases hv with rfl | rfl <;> rfl) ((?_ : ea_E G F_X12_sumOf (0, rZ, mZ) 0 [some (.ref 272), some (.int p1), none, none] [] m 0 0 (f_X12_sumOf p1 m) (fun t => t = (rZ, mZ))) (rZ, mZ) hZ rfl)
  have hR : ∀ t : Int32 × ea_M, t = (rZ, mZ) → ((0, rZ, mZ) : ea_O) = (0, t) := fun t h => by rw [h]
  unfold f_X12_sumOf
  refine ev_iconst (ea_at dt_X12_sumOf 0 rfl) ic_0 ?_
  refine ev_istore_n (ls' := [some (.ref 272), some (.int p1), some (.int 0), none]) (ea_at dt_X12_sumOf 1 rfl) (ea_lt rfl) rfl ?_
  refine ev_iconst (ea_at dt_X12_sumOf 2 rfl) ic_0 ?_
  refine ev_istore_n (ls' := [some (.ref 272), some (.int p1), some (.int 0), some (.int 0)]) (ea_at dt_X12_sumOf 3 rfl) (ea_lt rfl) rfl ?_
  refine ev_drop (l' := [some (.ref 272), some (.int p1), some (.int 0), some (.int 0)]) ⟨Or.inr rfl, Or.inr rfl, Or.inr rfl, Or.inr rfl, trivial⟩ ?_
  refine ev_bind (lp_X12_sumOf_4 G p1   (fun x4s h => ?_) ea_fuel (0, 0, m))
  obtain ⟨t1, e1, q1⟩ := h
  refine (?_ : ea_E G F_X12_sumOf (0, rZ, mZ) 73 [none, none, some (.int x4s.1), none] [] x4s.2 0 0 _ (fun t => t = (rZ, mZ))) t1 e1 q1
  refine ev_iload_n (ea_at dt_X12_sumOf 45 rfl) rfl ?_
  exact ev_iret (ea_at dt_X12_sumOf 46 rfl) rfl ⟨by decide, by decide⟩ (fun h => hR _ h)
def F_X12_looks : ea_F := (ea_rm 8 0 0, cX12_looks, RX12, none, 5, [], 0, 0)
def D_X12_looks : List (Nat × Instr × Nat) := [(0, .aload_n 0, 1), (1, .iload_n 1, 1), (2, .putfield 268, 3), (5, .aload_n 0, 1), (6, .iload_n 2, 1), (7, .putfield 271, 3), (10, .aload_n 0, 1), (11, .iload_n 3, 1), (12, .putfield 274, 3), (15, .aload_n 0, 1), (16, .iload 4, 2), (18, .putfield 280, 3), (21, .return_, 1)]
theorem dt_X12_looks : ∀ q ∈ D_X12_looks, decode cX12_looks q.1 = .ok q.2 := by decide +kernel
theorem mv_X12_looks : ea_MV yX12_looks (F_X12_looks) 4 := ⟨⟨List.mem_append_right _ (List.mem_of_getElem? (i := 13) (by decide +kernel)), List.mem_append_right _ (List.mem_of_getElem? (i := 1715) (by decide +kernel)), ⟨by decide, by decide⟩, by decide +kernel⟩, List.mem_append_right _ (List.mem_of_getElem? (i := 1714) (by decide +kernel)), List.mem_append_left _ (List.mem_of_getElem? (i := 75) (by decide +kernel))⟩
def f_X12_looks (p1 : Int32) (p2 : Int32) (p3 : Int32) (p4 : Int32) (m : ea_M) : Option (Int32 × ea_M) :=
  ea_bd (ea_st m 272 18 p1) fun m1 =>
  ea_bd (ea_st m1 272 19 p2) fun m2 =>
  ea_bd (ea_st m2 272 20 p3) fun m3 =>
  ea_bd (ea_st m3 272 21 p4) fun m4 =>
  some (0, m4)
set_option maxHeartbeats 300000 in
theorem ok_X12_looks (G : ea_G) (p1 : Int32) (p2 : Int32) (p3 : Int32) (p4 : Int32) (m : ea_M)  (rZ : Int32) (mZ : ea_M) (hZ : f_X12_looks p1 p2 p3 p4 m = some (rZ, mZ)) : ea_Met G yX12_looks F_X12_looks [.ref 272, .int p1, .int p2, .int p3, .int p4] m (0, rZ, mZ) := by
  refine ea_met (F := F_X12_looks) (by decide +kernel) rfl rfl (Nat.le_of_ble_eq_true rfl) (by simp only [List.mem_cons, List.not_mem_nil, or_false]; intro v hv; rcases hv with rfl | rfl | rfl | rfl | rfl <;> rfl) ((?_ : ea_E G F_X12_looks (0, rZ, mZ) 0 [some (.ref 272), some (.int p1), some (.int p2), some (.int p3), some (.int p4)] [] m 0 0 (f_X12_looks p1 p2 p3 p4 m) (fun t => t = (rZ, mZ))) (rZ, mZ) hZ rfl)
  have hR : ∀ t : Int32 × ea_M, t = (rZ, mZ) → ((0, rZ, mZ) : ea_O) = (0, t) := fun t h => by rw [h]
  unfold f_X12_looks
  refine ev_aload_n (ea_at dt_X12_looks 0 rfl) rfl ?_
  refine ev_iload_n (ea_at dt_X12_looks 1 rfl) rfl ?_
  refine ev_putI (ea_at dt_X12_looks 2 rfl) fl_X12_268 fp_12_18 sh_272 rfl ?_
  refine ev_m (fun m1 => ?_)
  refine ev_aload_n (ea_at dt_X12_looks 3 rfl) rfl ?_
  refine ev_iload_n (ea_at dt_X12_looks 4 rfl) rfl ?_
  refine ev_putI (ea_at dt_X12_looks 5 rfl) fl_X12_271 fp_12_19 sh_272 rfl ?_
  refine ev_m (fun m2 => ?_)
  refine ev_aload_n (ea_at dt_X12_looks 6 rfl) rfl ?_
  refine ev_iload_n (ea_at dt_X12_looks 7 rfl) rfl ?_
  refine ev_putI (ea_at dt_X12_looks 8 rfl) fl_X12_274 fp_12_20 sh_272 rfl ?_
  refine ev_m (fun m3 => ?_)
  refine ev_aload_n (ea_at dt_X12_looks 9 rfl) rfl ?_
  refine ev_iload (ea_at dt_X12_looks 10 rfl) rfl ?_
  refine ev_putI (ea_at dt_X12_looks 11 rfl) fl_X12_280 fp_12_21 sh_272 rfl ?_
  refine ev_m (fun m4 => ?_)
  exact ev_vret (ea_at dt_X12_looks 12 rfl) rfl ⟨by decide, by decide⟩ (fun h => ⟨0, hR _ h⟩)
def F_X12_sinks : ea_F := (ea_rm 13 0 0, cX12_sinks, RX12, some .int, 2, [], 0, 0)
def D_X12_sinks : List (Nat × Instr × Nat) := [(0, .aload_n 0, 1), (1, .aload_n 0, 1), (2, .getfield 268, 3), (5, .iconst 0, 1), (6, .invokevirtual 277, 3), (9, .aload_n 0, 1), (10, .iconst 0, 1), (11, .invokevirtual 292, 3), (14, .iadd, 1), (15, .aload_n 0, 1), (16, .iconst 1, 1), (17, .invokevirtual 292, 3), (20, .isub, 1), (21, .istore_n 1, 1), (22, .iconst 0, 1), (23, .bipush 12, 2), (25, .iload_n 1, 1), (26, .invokestatic 295, 3), (29, .invokestatic 300, 3), (32, .ireturn, 1)]
theorem dt_X12_sinks : ∀ q ∈ D_X12_sinks, decode cX12_sinks q.1 = .ok q.2 := by decide +kernel
theorem mv_X12_sinks : ea_MV yX12_sinks (F_X12_sinks) 0 := ⟨⟨List.mem_append_right _ (List.mem_of_getElem? (i := 13) (by decide +kernel)), List.mem_append_right _ (List.mem_of_getElem? (i := 1743) (by decide +kernel)), ⟨by decide, by decide⟩, by decide +kernel⟩, List.mem_append_right _ (List.mem_of_getElem? (i := 1742) (by decide +kernel)), List.mem_append_left _ (List.mem_of_getElem? (i := 82) (by decide +kernel))⟩
def f_X12_sinks (m : ea_M) : Option (Int32 × ea_M) :=
  ea_bd (m 272 18) fun x1 =>
  ea_cl (f_X12_ofBird x1 0 m) fun r3 m2 =>
  ea_cl (f_X12_sumOf 0 m2) fun r5 m4 =>
  ea_cl (f_X12_sumOf 1 m4) fun r7 m6 =>
  ea_bd ((r3 + r5) - r7) fun x8 =>
  ea_bd (ea_min 12 x8) fun x9 =>
  ea_bd (ea_max 0 x9) fun x10 =>
  some (x10, m6)
set_option maxHeartbeats 300000 in
theorem ok_X12_sinks (G : ea_G) (m : ea_M)  (rZ : Int32) (mZ : ea_M) (hZ : f_X12_sinks m = some (rZ, mZ)) : ea_Met G yX12_sinks F_X12_sinks [.ref 272] m (0, rZ, mZ) := by
  refine ea_met (F := F_X12_sinks) (by decide +kernel) rfl rfl (Nat.le_of_ble_eq_true rfl) (by simp only [List.mem_cons, List.not_mem_nil, or_false]; intro v hv; rcases hv with rfl <;> rfl) ((?_ : ea_E G F_X12_sinks (0, rZ, mZ) 0 [some (.ref 272), none] [] m 0 0 (f_X12_sinks m) (fun t => t = (rZ, mZ))) (rZ, mZ) hZ rfl)
  have hR : ∀ t : Int32 × ea_M, t = (rZ, mZ) → ((0, rZ, mZ) : ea_O) = (0, t) := fun t h => by rw [h]
  unfold f_X12_sinks
  refine ev_aload_n (ea_at dt_X12_sinks 0 rfl) rfl ?_
  refine ev_aload_n (ea_at dt_X12_sinks 1 rfl) rfl ?_
  refine ev_getI (ea_at dt_X12_sinks 2 rfl) fl_X12_268 sh_272 rfl ?_
  refine ev_i (fun x1 => ?_)
  refine ev_iconst (ea_at dt_X12_sinks 3 rfl) ic_0 ?_
  refine ev_clI (F1 := F_X12_ofBird) (fun rY mY hY => ea_runV (As := [.int x1, .int 0]) (ea_at dt_X12_sinks 4 rfl) ml_X12_277 mv_X12_ofBird (ok_X12_ofBird G x1 0 m  rY mY hY) sh_272 rfl rfl rfl (Nat.le_of_ble_eq_true rfl) rfl) rfl (fun r3 m2 => ?_)
  refine ev_aload_n (ea_at dt_X12_sinks 5 rfl) rfl ?_
  refine ev_iconst (ea_at dt_X12_sinks 6 rfl) ic_0 ?_
  refine ev_clI (F1 := F_X12_sumOf) (fun rY mY hY => ea_runV (As := [.int 0]) (ea_at dt_X12_sinks 7 rfl) ml_X12_292 mv_X12_sumOf (ok_X12_sumOf G 0 m2  rY mY hY) sh_272 rfl rfl rfl (Nat.le_of_ble_eq_true rfl) rfl) rfl (fun r5 m4 => ?_)
  refine ev_iadd (ea_at dt_X12_sinks 8 rfl) ?_
  refine ev_aload_n (ea_at dt_X12_sinks 9 rfl) rfl ?_
  refine ev_iconst (ea_at dt_X12_sinks 10 rfl) ic_1 ?_
  refine ev_clI (F1 := F_X12_sumOf) (fun rY mY hY => ea_runV (As := [.int 1]) (ea_at dt_X12_sinks 11 rfl) ml_X12_292 mv_X12_sumOf (ok_X12_sumOf G 1 m4  rY mY hY) sh_272 rfl rfl rfl (Nat.le_of_ble_eq_true rfl) rfl) rfl (fun r7 m6 => ?_)
  refine ev_isub (ea_at dt_X12_sinks 12 rfl) ?_
  refine ev_i (fun x8 => ?_)
  refine ev_istore_n (ls' := [some (.ref 272), some (.int x8)]) (ea_at dt_X12_sinks 13 rfl) (ea_lt rfl) rfl ?_
  refine ev_iconst (ea_at dt_X12_sinks 14 rfl) ic_0 ?_
  refine ev_bipush (ea_at dt_X12_sinks 15 rfl) bp_12 ?_
  refine ev_iload_n (ea_at dt_X12_sinks 16 rfl) rfl ?_
  refine ev_mmin (ea_at dt_X12_sinks 17 rfl) ml_X12_295 ea_maW_min ⟨by decide, Nat.le_of_ble_eq_true rfl, by decide, by decide⟩ ?_
  refine ev_i (fun x9 => ?_)
  refine ev_mmax (ea_at dt_X12_sinks 18 rfl) ml_X12_300 ea_maW_max ⟨by decide, Nat.le_of_ble_eq_true rfl, by decide, by decide⟩ ?_
  refine ev_i (fun x10 => ?_)
  exact ev_iret (ea_at dt_X12_sinks 19 rfl) rfl ⟨by decide, by decide⟩ (fun h => hR _ h)
def F_X12_carries : ea_F := (ea_rm 13 0 0, cX12_carries, RX12, some .int, 1, [], 0, 0)
def D_X12_carries : List (Nat × Instr × Nat) := [(0, .aload_n 0, 1), (1, .getfield 13, 3), (4, .bipush 13, 2), (6, .aload_n 0, 1), (7, .getfield 271, 3), (10, .iadd, 1), (11, .iaload, 1), (12, .aload_n 0, 1), (13, .aload_n 0, 1), (14, .getfield 268, 3), (17, .iconst 1, 1), (18, .invokevirtual 277, 3), (21, .imul, 1), (22, .aload_n 0, 1), (23, .iconst 2, 1), (24, .invokevirtual 292, 3), (27, .iadd, 1), (28, .aload_n 0, 1), (29, .iconst 3, 1), (30, .invokevirtual 292, 3), (33, .isub, 1), (34, .ireturn, 1)]
theorem dt_X12_carries : ∀ q ∈ D_X12_carries, decode cX12_carries q.1 = .ok q.2 := by decide +kernel
theorem mv_X12_carries : ea_MV yX12_carries (F_X12_carries) 0 := ⟨⟨List.mem_append_right _ (List.mem_of_getElem? (i := 13) (by decide +kernel)), List.mem_append_right _ (List.mem_of_getElem? (i := 1719) (by decide +kernel)), ⟨by decide, by decide⟩, by decide +kernel⟩, List.mem_append_right _ (List.mem_of_getElem? (i := 1718) (by decide +kernel)), List.mem_append_left _ (List.mem_of_getElem? (i := 76) (by decide +kernel))⟩
def f_X12_carries (m : ea_M) : Option (Int32 × ea_M) :=
  ea_bd (m 272 19) fun x1 =>
  ea_g (13 + x1) 2180 (ea_bd (m 273 (Int32.toNatClampNeg (13 + x1))) fun x2 =>
  ea_bd (m 272 18) fun x3 =>
  ea_cl (f_X12_ofBird x3 1 m) fun r5 m4 =>
  ea_cl (f_X12_sumOf 2 m4) fun r7 m6 =>
  ea_bd ((x2 * r5) + r7) fun x8 =>
  ea_cl (f_X12_sumOf 3 m6) fun r10 m9 =>
  some (x8 - r10, m9))
set_option maxHeartbeats 300000 in
theorem ok_X12_carries (G : ea_G) (m : ea_M)  (rZ : Int32) (mZ : ea_M) (hZ : f_X12_carries m = some (rZ, mZ)) : ea_Met G yX12_carries F_X12_carries [.ref 272] m (0, rZ, mZ) := by
  refine ea_met (F := F_X12_carries) (by decide +kernel) rfl rfl (Nat.le_of_ble_eq_true rfl) (by simp only [List.mem_cons, List.not_mem_nil, or_false]; intro v hv; rcases hv with rfl <;> rfl) ((?_ : ea_E G F_X12_carries (0, rZ, mZ) 0 [some (.ref 272)] [] m 0 0 (f_X12_carries m) (fun t => t = (rZ, mZ))) (rZ, mZ) hZ rfl)
  have hR : ∀ t : Int32 × ea_M, t = (rZ, mZ) → ((0, rZ, mZ) : ea_O) = (0, t) := fun t h => by rw [h]
  unfold f_X12_carries
  refine ev_aload_n (ea_at dt_X12_carries 0 rfl) rfl ?_
  refine ev_getR (ea_at dt_X12_carries 1 rfl) fl_X12_13 sh_272 rfl ?_
  refine ev_bipush (ea_at dt_X12_carries 2 rfl) bp_13 ?_
  refine ev_aload_n (ea_at dt_X12_carries 3 rfl) rfl ?_
  refine ev_getI (ea_at dt_X12_carries 4 rfl) fl_X12_271 sh_272 rfl ?_
  refine ev_i (fun x1 => ?_)
  refine ev_iadd (ea_at dt_X12_carries 5 rfl) ?_
  refine ev_iaload (ea_at dt_X12_carries 6 rfl) sh_273 (by decide) ?_
  refine ev_i (fun x2 => ?_)
  refine ev_aload_n (ea_at dt_X12_carries 7 rfl) rfl ?_
  refine ev_aload_n (ea_at dt_X12_carries 8 rfl) rfl ?_
  refine ev_getI (ea_at dt_X12_carries 9 rfl) fl_X12_268 sh_272 rfl ?_
  refine ev_i (fun x3 => ?_)
  refine ev_iconst (ea_at dt_X12_carries 10 rfl) ic_1 ?_
  refine ev_clI (F1 := F_X12_ofBird) (fun rY mY hY => ea_runV (As := [.int x3, .int 1]) (ea_at dt_X12_carries 11 rfl) ml_X12_277 mv_X12_ofBird (ok_X12_ofBird G x3 1 m  rY mY hY) sh_272 rfl rfl rfl (Nat.le_of_ble_eq_true rfl) rfl) rfl (fun r5 m4 => ?_)
  refine ev_imul (ea_at dt_X12_carries 12 rfl) ?_
  refine ev_aload_n (ea_at dt_X12_carries 13 rfl) rfl ?_
  refine ev_iconst (ea_at dt_X12_carries 14 rfl) ic_2 ?_
  refine ev_clI (F1 := F_X12_sumOf) (fun rY mY hY => ea_runV (As := [.int 2]) (ea_at dt_X12_carries 15 rfl) ml_X12_292 mv_X12_sumOf (ok_X12_sumOf G 2 m4  rY mY hY) sh_272 rfl rfl rfl (Nat.le_of_ble_eq_true rfl) rfl) rfl (fun r7 m6 => ?_)
  refine ev_iadd (ea_at dt_X12_carries 16 rfl) ?_
  refine ev_i (fun x8 => ?_)
  refine ev_aload_n (ea_at dt_X12_carries 17 rfl) rfl ?_
  refine ev_iconst (ea_at dt_X12_carries 18 rfl) ic_3 ?_
  refine ev_clI (F1 := F_X12_sumOf) (fun rY mY hY => ea_runV (As := [.int 3]) (ea_at dt_X12_carries 19 rfl) ml_X12_292 mv_X12_sumOf (ok_X12_sumOf G 3 m6  rY mY hY) sh_272 rfl rfl rfl (Nat.le_of_ble_eq_true rfl) rfl) rfl (fun r10 m9 => ?_)
  refine ev_isub (ea_at dt_X12_carries 20 rfl) ?_
  exact ev_iret (ea_at dt_X12_carries 21 rfl) rfl ⟨by decide, by decide⟩ (fun h => hR _ h)
def F_X12_driftOf : ea_F := (ea_rm 9 0 0, cX12_driftOf, RX12, some .int, 3, [], 0, 0)
def D_X12_driftOf : List (Nat × Instr × Nat) := [(0, .aload_n 0, 1), (1, .iload_n 1, 1), (2, .iconst 1, 1), (3, .invokevirtual 277, 3), (6, .ifCond .le 7, 3), (9, .iload_n 2, 1), (10, .goto 4, 3), (13, .iconst 0, 1), (14, .ireturn, 1)]
theorem dt_X12_driftOf : ∀ q ∈ D_X12_driftOf, decode cX12_driftOf q.1 = .ok q.2 := by decide +kernel
theorem mv_X12_driftOf : ea_MV yX12_driftOf (F_X12_driftOf) 2 := ⟨⟨List.mem_append_right _ (List.mem_of_getElem? (i := 13) (by decide +kernel)), List.mem_append_right _ (List.mem_of_getElem? (i := 1764) (by decide +kernel)), ⟨by decide, by decide⟩, by decide +kernel⟩, List.mem_append_right _ (List.mem_of_getElem? (i := 1763) (by decide +kernel)), List.mem_append_left _ (List.mem_of_getElem? (i := 85) (by decide +kernel))⟩
def f_X12_driftOf (p1 : Int32) (p2 : Int32) (m : ea_M) : Option (Int32 × ea_M) :=
  ea_cl (f_X12_ofBird p1 1 m) fun r2 m1 =>
  if r2 ≤ 0 then
  some (0, m1)
  else
  some (p2, m1)
set_option maxHeartbeats 300000 in
theorem ok_X12_driftOf (G : ea_G) (p1 : Int32) (p2 : Int32) (m : ea_M)  (rZ : Int32) (mZ : ea_M) (hZ : f_X12_driftOf p1 p2 m = some (rZ, mZ)) : ea_Met G yX12_driftOf F_X12_driftOf [.ref 272, .int p1, .int p2] m (0, rZ, mZ) := by
  refine ea_met (F := F_X12_driftOf) (by decide +kernel) rfl rfl (Nat.le_of_ble_eq_true rfl) (by simp only [List.mem_cons, List.not_mem_nil, or_false]; intro v hv; rcases hv with rfl | rfl | rfl <;> rfl) ((?_ : ea_E G F_X12_driftOf (0, rZ, mZ) 0 [some (.ref 272), some (.int p1), some (.int p2)] [] m 0 0 (f_X12_driftOf p1 p2 m) (fun t => t = (rZ, mZ))) (rZ, mZ) hZ rfl)
  have hR : ∀ t : Int32 × ea_M, t = (rZ, mZ) → ((0, rZ, mZ) : ea_O) = (0, t) := fun t h => by rw [h]
  unfold f_X12_driftOf
  refine ev_aload_n (ea_at dt_X12_driftOf 0 rfl) rfl ?_
  refine ev_iload_n (ea_at dt_X12_driftOf 1 rfl) rfl ?_
  refine ev_iconst (ea_at dt_X12_driftOf 2 rfl) ic_1 ?_
  refine ev_clI (F1 := F_X12_ofBird) (fun rY mY hY => ea_runV (As := [.int p1, .int 1]) (ea_at dt_X12_driftOf 3 rfl) ml_X12_277 mv_X12_ofBird (ok_X12_ofBird G p1 1 m  rY mY hY) sh_272 rfl rfl rfl (Nat.le_of_ble_eq_true rfl) rfl) rfl (fun r2 m1 => ?_)
  refine ev_if_le (tgt := 13) (ea_at dt_X12_driftOf 4 rfl) rfl (fun _ => ?_) (fun _ => ?_)
  · refine ev_iconst (ea_at dt_X12_driftOf 7 rfl) ic_0 ?_
    exact ev_iret (ea_at dt_X12_driftOf 8 rfl) rfl ⟨by decide, by decide⟩ (fun h => hR _ h)
  · refine ev_iload_n (ea_at dt_X12_driftOf 5 rfl) rfl ?_
    refine ev_goto (tgt := 14) (ea_at dt_X12_driftOf 6 rfl) rfl ?_
    exact ev_iret (ea_at dt_X12_driftOf 8 rfl) rfl ⟨by decide, by decide⟩ (fun h => hR _ h)
def F_X12_moves : ea_F := (ea_rm 14 0 0, cX12_moves, RX12, some .int, 6, [], 0, 0)
def D_X12_moves : List (Nat × Instr × Nat) := [(0, .aload_n 0, 1), (1, .iconst 0, 1), (2, .putfield 3, 3), (5, .aload_n 0, 1), (6, .aload_n 0, 1), (7, .iload_n 1, 1), (8, .invokevirtual 303, 3), (11, .ifCond .ne 21, 3), (14, .iload_n 2, 1), (15, .invokestatic 306, 3), (18, .ifCond .ne 14, 3), (21, .iload_n 2, 1), (22, .ifCond .eq 10, 3), (25, .iload_n 3, 1), (26, .invokestatic 309, 3), (29, .ifCond .eq 7, 3), (32, .iconst 1, 1), (33, .goto 4, 3), (36, .iconst 0, 1), (37, .iconst 1, 1), (38, .invokevirtual 265, 3), (41, .ifCond .ne 27, 3), (44, .aload_n 0, 1), (45, .iload 4, 2), (47, .iconst 0, 1), (48, .bipush 7, 2), (50, .invokestatic 78, 3), (53, .ifCond .ne 7, 3), (56, .iconst 1, 1), (57, .goto 4, 3), (60, .iconst 0, 1), (61, .iconst 2, 1), (62, .invokevirtual 265, 3), (65, .ifCond .eq 5, 3), (68, .iconst 0, 1), (69, .ireturn, 1), (70, .aload_n 0, 1), (71, .iload_n 1, 1), (72, .iload_n 2, 1), (73, .iload_n 3, 1), (74, .iload 4, 2), (76, .invokevirtual 312, 3), (79, .iload 5, 2), (81, .ifCond .eq 10, 3), (84, .aload_n 0, 1), (85, .invokevirtual 316, 3), (88, .goto 7, 3), (91, .aload_n 0, 1), (92, .invokevirtual 319, 3), (95, .ireturn, 1)]
theorem dt_X12_moves : ∀ q ∈ D_X12_moves, decode cX12_moves q.1 = .ok q.2 := by decide +kernel
theorem mv_X12_moves : ea_MV yX12_moves (F_X12_moves) 5 := ⟨⟨List.mem_append_right _ (List.mem_of_getElem? (i := 13) (by decide +kernel)), List.mem_append_right _ (List.mem_of_getElem? (i := 1701) (by decide +kernel)), ⟨by decide, by decide⟩, by decide +kernel⟩, List.mem_append_right _ (List.mem_of_getElem? (i := 1699) (by decide +kernel)), List.mem_append_right _ (List.mem_of_getElem? (i := 1700) (by decide +kernel))⟩
def f_X12_moves_j61 (p1 : Int32) (p2 : Int32) (p3 : Int32) (p4 : Int32) (p5 : Int32) (x13 : Int32) (m14 : ea_M) : Option (Int32 × ea_M) :=
  ea_cl (f_X12_throwsIf x13 2 m14) fun r16 m15 =>
  if r16 = 0 then
  ea_cl (f_X12_looks p1 p2 p3 p4 m15) fun r18 m17 =>
  if p5 = 0 then
  ea_cl (f_X12_sinks m17) fun r20 m19 =>
  some (r20, m19)
  else
  ea_cl (f_X12_carries m17) fun r22 m21 =>
  some (r22, m21)
  else
  some (0, m15)
def f_X12_moves_j37 (p1 : Int32) (p2 : Int32) (p3 : Int32) (p4 : Int32) (p5 : Int32) (x7 : Int32) (m8 : ea_M) : Option (Int32 × ea_M) :=
  ea_cl (f_X12_throwsIf x7 1 m8) fun r10 m9 =>
  if r10 = 0 then
  ea_cl (f_X12_in p4 0 7 m9) fun r12 m11 =>
  if r12 = 0 then
  f_X12_moves_j61 p1 p2 p3 p4 p5 1 m11
  else
  f_X12_moves_j61 p1 p2 p3 p4 p5 0 m11
  else
  some (0, m9)
def f_X12_moves_j32 (p1 : Int32) (p2 : Int32) (p3 : Int32) (p4 : Int32) (p5 : Int32) (m6 : ea_M) : Option (Int32 × ea_M) :=
  f_X12_moves_j37 p1 p2 p3 p4 p5 1 m6
def f_X12_moves (p1 : Int32) (p2 : Int32) (p3 : Int32) (p4 : Int32) (p5 : Int32) (m : ea_M) : Option (Int32 × ea_M) :=
  ea_bd (ea_st m 272 0 0) fun m1 =>
  ea_cl (f_X12_noBird p1 m1) fun r3 m2 =>
  if r3 = 0 then
  ea_cl (f_X12_noLevel p2 m2) fun r5 m4 =>
  if r5 = 0 then
  if p2 = 0 then
  f_X12_moves_j32 p1 p2 p3 p4 p5 m4
  else
  ea_cl (f_X12_noColumn p3 m4) fun r24 m23 =>
  if r24 = 0 then
  f_X12_moves_j37 p1 p2 p3 p4 p5 0 m23
  else
  f_X12_moves_j32 p1 p2 p3 p4 p5 m23
  else
  f_X12_moves_j32 p1 p2 p3 p4 p5 m4
  else
  f_X12_moves_j32 p1 p2 p3 p4 p5 m2
set_option maxHeartbeats 300000 in
theorem jn_X12_moves_61 (G : ea_G) {res : ea_O}  (p1 : Int32) (p2 : Int32) (p3 : Int32) (p4 : Int32) (p5 : Int32) (x13 : Int32) (m14 : ea_M)  {Φ : (Int32 × ea_M) → Prop} (hR : ∀ t : Int32 × ea_M, Φ t → res = (0, t)) : ea_E G F_X12_moves res 61 [some (.ref 272), some (.int p1), some (.int p2), some (.int p3), some (.int p4), some (.int p5)] [.int x13, .ref 272] m14 0 0 (f_X12_moves_j61 p1 p2 p3 p4 p5 x13 m14) Φ := by
  unfold f_X12_moves_j61
  refine ev_iconst (ea_at dt_X12_moves 31 rfl) ic_2 ?_
  refine ev_clI (F1 := F_X12_throwsIf) (fun rY mY hY => ea_runV (As := [.int x13, .int 2]) (ea_at dt_X12_moves 32 rfl) ml_X12_265 mv_X12_throwsIf (ok_X12_throwsIf G x13 2 m14  rY mY hY) sh_272 rfl rfl rfl (Nat.le_of_ble_eq_true rfl) rfl) rfl (fun r16 m15 => ?_)
  refine ev_if_eq (tgt := 70) (ea_at dt_X12_moves 33 rfl) rfl (fun _ => ?_) (fun _ => ?_)
  · refine ev_aload_n (ea_at dt_X12_moves 36 rfl) rfl ?_
    refine ev_iload_n (ea_at dt_X12_moves 37 rfl) rfl ?_
    refine ev_iload_n (ea_at dt_X12_moves 38 rfl) rfl ?_
    refine ev_iload_n (ea_at dt_X12_moves 39 rfl) rfl ?_
    refine ev_iload (ea_at dt_X12_moves 40 rfl) rfl ?_
    refine ev_clU (F1 := F_X12_looks) (fun rY mY hY => ea_runV (As := [.int p1, .int p2, .int p3, .int p4]) (ea_at dt_X12_moves 41 rfl) ml_X12_312 mv_X12_looks (ok_X12_looks G p1 p2 p3 p4 m15  rY mY hY) sh_272 rfl rfl rfl (Nat.le_of_ble_eq_true rfl) rfl) rfl (fun r18 m17 => ?_)
    refine ev_iload (ea_at dt_X12_moves 42 rfl) rfl ?_
    refine ev_if_eq (tgt := 91) (ea_at dt_X12_moves 43 rfl) rfl (fun _ => ?_) (fun _ => ?_)
    · refine ev_aload_n (ea_at dt_X12_moves 47 rfl) rfl ?_
      refine ev_clI (F1 := F_X12_sinks) (fun rY mY hY => ea_runV (As := []) (ea_at dt_X12_moves 48 rfl) ml_X12_319 mv_X12_sinks (ok_X12_sinks G m17  rY mY hY) sh_272 rfl rfl rfl (Nat.le_of_ble_eq_true rfl) rfl) rfl (fun r20 m19 => ?_)
      exact ev_iret (ea_at dt_X12_moves 49 rfl) rfl ⟨by decide, by decide⟩ (fun h => hR _ h)
    · refine ev_aload_n (ea_at dt_X12_moves 44 rfl) rfl ?_
      refine ev_clI (F1 := F_X12_carries) (fun rY mY hY => ea_runV (As := []) (ea_at dt_X12_moves 45 rfl) ml_X12_316 mv_X12_carries (ok_X12_carries G m17  rY mY hY) sh_272 rfl rfl rfl (Nat.le_of_ble_eq_true rfl) rfl) rfl (fun r22 m21 => ?_)
      refine ev_goto (tgt := 95) (ea_at dt_X12_moves 46 rfl) rfl ?_
      exact ev_iret (ea_at dt_X12_moves 49 rfl) rfl ⟨by decide, by decide⟩ (fun h => hR _ h)
  · refine ev_iconst (ea_at dt_X12_moves 34 rfl) ic_0 ?_
    exact ev_iret (ea_at dt_X12_moves 35 rfl) rfl ⟨by decide, by decide⟩ (fun h => hR _ h)
set_option maxHeartbeats 300000 in
theorem jn_X12_moves_37 (G : ea_G) {res : ea_O}  (p1 : Int32) (p2 : Int32) (p3 : Int32) (p4 : Int32) (p5 : Int32) (x7 : Int32) (m8 : ea_M)  {Φ : (Int32 × ea_M) → Prop} (hR : ∀ t : Int32 × ea_M, Φ t → res = (0, t)) : ea_E G F_X12_moves res 37 [some (.ref 272), some (.int p1), some (.int p2), some (.int p3), some (.int p4), some (.int p5)] [.int x7, .ref 272] m8 0 0 (f_X12_moves_j37 p1 p2 p3 p4 p5 x7 m8) Φ := by
  unfold f_X12_moves_j37
  refine ev_iconst (ea_at dt_X12_moves 19 rfl) ic_1 ?_
  refine ev_clI (F1 := F_X12_throwsIf) (fun rY mY hY => ea_runV (As := [.int x7, .int 1]) (ea_at dt_X12_moves 20 rfl) ml_X12_265 mv_X12_throwsIf (ok_X12_throwsIf G x7 1 m8  rY mY hY) sh_272 rfl rfl rfl (Nat.le_of_ble_eq_true rfl) rfl) rfl (fun r10 m9 => ?_)
  refine ev_if_ne (tgt := 68) (ea_at dt_X12_moves 21 rfl) rfl (fun _ => ?_) (fun _ => ?_)
  · refine ev_aload_n (ea_at dt_X12_moves 22 rfl) rfl ?_
    refine ev_iload (ea_at dt_X12_moves 23 rfl) rfl ?_
    refine ev_iconst (ea_at dt_X12_moves 24 rfl) ic_0 ?_
    refine ev_bipush (ea_at dt_X12_moves 25 rfl) bp_7 ?_
    refine ev_clI (F1 := F_X12_in) (fun rY mY hY => ea_runS (As := [.int p4, .int 0, .int 7]) (ea_at dt_X12_moves 26 rfl) ml_X12_78 mv_X12_in (ok_X12_in G p4 0 7 m9  rY mY hY) rfl rfl (Nat.le_of_ble_eq_true rfl) rfl) rfl (fun r12 m11 => ?_)
    refine ev_if_ne (tgt := 60) (ea_at dt_X12_moves 27 rfl) rfl (fun _ => ?_) (fun _ => ?_)
    · refine ev_iconst (ea_at dt_X12_moves 28 rfl) ic_1 ?_
      refine ev_goto (tgt := 61) (ea_at dt_X12_moves 29 rfl) rfl ?_
      exact ev_drop (l' := [some (.ref 272), some (.int p1), some (.int p2), some (.int p3), some (.int p4), some (.int p5)]) ⟨Or.inr rfl, Or.inr rfl, Or.inr rfl, Or.inr rfl, Or.inr rfl, Or.inr rfl, trivial⟩ (jn_X12_moves_61 G p1 p2 p3 p4 p5 1 m11  hR)
    · refine ev_iconst (ea_at dt_X12_moves 30 rfl) ic_0 ?_
      exact ev_drop (l' := [some (.ref 272), some (.int p1), some (.int p2), some (.int p3), some (.int p4), some (.int p5)]) ⟨Or.inr rfl, Or.inr rfl, Or.inr rfl, Or.inr rfl, Or.inr rfl, Or.inr rfl, trivial⟩ (jn_X12_moves_61 G p1 p2 p3 p4 p5 0 m11  hR)
  · refine ev_iconst (ea_at dt_X12_moves 34 rfl) ic_0 ?_
    exact ev_iret (ea_at dt_X12_moves 35 rfl) rfl ⟨by decide, by decide⟩ (fun h => hR _ h)
set_option maxHeartbeats 300000 in
theorem jn_X12_moves_32 (G : ea_G) {res : ea_O}  (p1 : Int32) (p2 : Int32) (p3 : Int32) (p4 : Int32) (p5 : Int32) (m6 : ea_M)  {Φ : (Int32 × ea_M) → Prop} (hR : ∀ t : Int32 × ea_M, Φ t → res = (0, t)) : ea_E G F_X12_moves res 32 [some (.ref 272), some (.int p1), some (.int p2), some (.int p3), some (.int p4), some (.int p5)] [.ref 272] m6 0 0 (f_X12_moves_j32 p1 p2 p3 p4 p5 m6) Φ := by
  unfold f_X12_moves_j32
  refine ev_iconst (ea_at dt_X12_moves 16 rfl) ic_1 ?_
  refine ev_goto (tgt := 37) (ea_at dt_X12_moves 17 rfl) rfl ?_
  exact ev_drop (l' := [some (.ref 272), some (.int p1), some (.int p2), some (.int p3), some (.int p4), some (.int p5)]) ⟨Or.inr rfl, Or.inr rfl, Or.inr rfl, Or.inr rfl, Or.inr rfl, Or.inr rfl, trivial⟩ (jn_X12_moves_37 G p1 p2 p3 p4 p5 1 m6  hR)
set_option maxHeartbeats 300000 in
theorem ok_X12_moves (G : ea_G) (p1 : Int32) (p2 : Int32) (p3 : Int32) (p4 : Int32) (p5 : Int32) (m : ea_M)  (rZ : Int32) (mZ : ea_M) (hZ : f_X12_moves p1 p2 p3 p4 p5 m = some (rZ, mZ)) : ea_Met G yX12_moves F_X12_moves [.ref 272, .int p1, .int p2, .int p3, .int p4, .int p5] m (0, rZ, mZ) := by
  refine ea_met (F := F_X12_moves) (by decide +kernel) rfl rfl (Nat.le_of_ble_eq_true rfl) (by simp only [List.mem_cons, List.not_mem_nil, or_false]; intro v hv; rcases hv with rfl | rfl | rfl | rfl | rfl | rfl <;> rfl) ((?_ : ea_E G F_X12_moves (0, rZ, mZ) 0 [some (.ref 272), some (.int p1), some (.int p2), some (.int p3), some (.int p4), some (.int p5)] [] m 0 0 (f_X12_moves p1 p2 p3 p4 p5 m) (fun t => t = (rZ, mZ))) (rZ, mZ) hZ rfl)
  have hR : ∀ t : Int32 × ea_M, t = (rZ, mZ) → ((0, rZ, mZ) : ea_O) = (0, t) := fun t h => by rw [h]
  unfold f_X12_moves
  refine ev_aload_n (ea_at dt_X12_moves 0 rfl) rfl ?_
  refine ev_iconst (ea_at dt_X12_moves 1 rfl) ic_0 ?_
  refine ev_putI (ea_at dt_X12_moves 2 rfl) fl_X12_3 fp_12_0 sh_272 rfl ?_
  refine ev_m (fun m1 => ?_)
  refine ev_aload_n (ea_at dt_X12_moves 3 rfl) rfl ?_
  refine ev_aload_n (ea_at dt_X12_moves 4 rfl) rfl ?_
  refine ev_iload_n (ea_at dt_X12_moves 5 rfl) rfl ?_
  refine ev_clI (F1 := F_X12_noBird) (fun rY mY hY => ea_runV (As := [.int p1]) (ea_at dt_X12_moves 6 rfl) ml_X12_303 mv_X12_noBird (ok_X12_noBird G p1 m1  rY mY hY) sh_272 rfl rfl rfl (Nat.le_of_ble_eq_true rfl) rfl) rfl (fun r3 m2 => ?_)
  refine ev_if_ne (tgt := 32) (ea_at dt_X12_moves 7 rfl) rfl (fun _ => ?_) (fun _ => ?_)
  · refine ev_iload_n (ea_at dt_X12_moves 8 rfl) rfl ?_
    refine ev_clI (F1 := F_X12_noLevel) (fun rY mY hY => ea_runS (As := [.int p2]) (ea_at dt_X12_moves 9 rfl) ml_X12_306 mv_X12_noLevel (ok_X12_noLevel G p2 m2  rY mY hY) rfl rfl (Nat.le_of_ble_eq_true rfl) rfl) rfl (fun r5 m4 => ?_)
    refine ev_if_ne (tgt := 32) (ea_at dt_X12_moves 10 rfl) rfl (fun _ => ?_) (fun _ => ?_)
    · refine ev_iload_n (ea_at dt_X12_moves 11 rfl) rfl ?_
      refine ev_if_eq (tgt := 32) (ea_at dt_X12_moves 12 rfl) rfl (fun _ => ?_) (fun _ => ?_)
      · exact ev_drop (l' := [some (.ref 272), some (.int p1), some (.int p2), some (.int p3), some (.int p4), some (.int p5)]) ⟨Or.inr rfl, Or.inr rfl, Or.inr rfl, Or.inr rfl, Or.inr rfl, Or.inr rfl, trivial⟩ (jn_X12_moves_32 G p1 p2 p3 p4 p5 m4  hR)
      · refine ev_iload_n (ea_at dt_X12_moves 13 rfl) rfl ?_
        refine ev_clI (F1 := F_X12_noColumn) (fun rY mY hY => ea_runS (As := [.int p3]) (ea_at dt_X12_moves 14 rfl) ml_X12_309 mv_X12_noColumn (ok_X12_noColumn G p3 m4  rY mY hY) rfl rfl (Nat.le_of_ble_eq_true rfl) rfl) rfl (fun r24 m23 => ?_)
        refine ev_if_eq (tgt := 36) (ea_at dt_X12_moves 15 rfl) rfl (fun _ => ?_) (fun _ => ?_)
        · refine ev_iconst (ea_at dt_X12_moves 18 rfl) ic_0 ?_
          exact ev_drop (l' := [some (.ref 272), some (.int p1), some (.int p2), some (.int p3), some (.int p4), some (.int p5)]) ⟨Or.inr rfl, Or.inr rfl, Or.inr rfl, Or.inr rfl, Or.inr rfl, Or.inr rfl, trivial⟩ (jn_X12_moves_37 G p1 p2 p3 p4 p5 0 m23  hR)
        · exact ev_drop (l' := [some (.ref 272), some (.int p1), some (.int p2), some (.int p3), some (.int p4), some (.int p5)]) ⟨Or.inr rfl, Or.inr rfl, Or.inr rfl, Or.inr rfl, Or.inr rfl, Or.inr rfl, trivial⟩ (jn_X12_moves_32 G p1 p2 p3 p4 p5 m23  hR)
    · exact ev_drop (l' := [some (.ref 272), some (.int p1), some (.int p2), some (.int p3), some (.int p4), some (.int p5)]) ⟨Or.inr rfl, Or.inr rfl, Or.inr rfl, Or.inr rfl, Or.inr rfl, Or.inr rfl, trivial⟩ (jn_X12_moves_32 G p1 p2 p3 p4 p5 m4  hR)
  · exact ev_drop (l' := [some (.ref 272), some (.int p1), some (.int p2), some (.int p3), some (.int p4), some (.int p5)]) ⟨Or.inr rfl, Or.inr rfl, Or.inr rfl, Or.inr rfl, Or.inr rfl, Or.inr rfl, trivial⟩ (jn_X12_moves_32 G p1 p2 p3 p4 p5 m2  hR)
def F_X12_at : ea_F := (ea_rm 8 0 0, cX12_at, RX12, some .int, 2, [], 0, 0)
def D_X12_at : List (Nat × Instr × Nat) := [(0, .bipush 16, 2), (2, .iload_n 0, 1), (3, .imul, 1), (4, .iload_n 1, 1), (5, .iadd, 1), (6, .ireturn, 1)]
theorem dt_X12_at : ∀ q ∈ D_X12_at, decode cX12_at q.1 = .ok q.2 := by decide +kernel
theorem mv_X12_at : ea_MS yX12_at (F_X12_at) 2 := ⟨⟨List.mem_append_right _ (List.mem_of_getElem? (i := 13) (by decide +kernel)), List.mem_append_right _ (List.mem_of_getElem? (i := 1756) (by decide +kernel)), ⟨by decide, by decide⟩, by decide +kernel⟩, List.mem_append_right _ (List.mem_of_getElem? (i := 1755) (by decide +kernel))⟩
def f_X12_at (p1 : Int32) (p2 : Int32) (m : ea_M) : Option (Int32 × ea_M) :=
  ea_bd ((16 * p1) + p2) fun x1 =>
  some (x1, m)
set_option maxHeartbeats 300000 in
theorem ok_X12_at (G : ea_G) (p1 : Int32) (p2 : Int32) (m : ea_M)  (rZ : Int32) (mZ : ea_M) (hZ : f_X12_at p1 p2 m = some (rZ, mZ)) : ea_Met G yX12_at F_X12_at [.int p1, .int p2] m (0, rZ, mZ) := by
  refine ea_met (F := F_X12_at) (by decide +kernel) rfl rfl (Nat.le_of_ble_eq_true rfl) (by simp only [List.mem_cons, List.not_mem_nil, or_false]; intro v hv; rcases hv with rfl | rfl <;> rfl) ((?_ : ea_E G F_X12_at (0, rZ, mZ) 0 [some (.int p1), some (.int p2)] [] m 0 0 (f_X12_at p1 p2 m) (fun t => t = (rZ, mZ))) (rZ, mZ) hZ rfl)
  have hR : ∀ t : Int32 × ea_M, t = (rZ, mZ) → ((0, rZ, mZ) : ea_O) = (0, t) := fun t h => by rw [h]
  unfold f_X12_at
  refine ev_bipush (ea_at dt_X12_at 0 rfl) bp_16 ?_
  refine ev_iload_n (ea_at dt_X12_at 1 rfl) rfl ?_
  refine ev_imul (ea_at dt_X12_at 2 rfl) ?_
  refine ev_iload_n (ea_at dt_X12_at 3 rfl) rfl ?_
  refine ev_iadd (ea_at dt_X12_at 4 rfl) ?_
  refine ev_i (fun x1 => ?_)
  exact ev_iret (ea_at dt_X12_at 5 rfl) rfl ⟨by decide, by decide⟩ (fun h => hR _ h)
def F_X12_waysLeft : ea_F := (ea_rm 8 0 0, cX12_waysLeft, RX12, some .int, 3, [], 0, 0)
def D_X12_waysLeft : List (Nat × Instr × Nat) := [(0, .iconst 1, 1), (1, .istore_n 1, 1), (2, .iload_n 0, 1), (3, .istore_n 2, 1), (4, .iload_n 2, 1), (5, .bipush 8, 2), (7, .if_icmp .ge 13, 3), (10, .iload_n 1, 1), (11, .iconst 3, 1), (12, .imul, 1), (13, .istore_n 1, 1), (14, .iinc 2 1, 3), (17, .goto (-13), 3), (20, .iload_n 1, 1), (21, .ireturn, 1)]
theorem dt_X12_waysLeft : ∀ q ∈ D_X12_waysLeft, decode cX12_waysLeft q.1 = .ok q.2 := by decide +kernel
theorem mv_X12_waysLeft : ea_MS yX12_waysLeft (F_X12_waysLeft) 1 := ⟨⟨List.mem_append_right _ (List.mem_of_getElem? (i := 13) (by decide +kernel)), List.mem_append_right _ (List.mem_of_getElem? (i := 1767) (by decide +kernel)), ⟨by decide, by decide⟩, by decide +kernel⟩, List.mem_append_right _ (List.mem_of_getElem? (i := 1766) (by decide +kernel))⟩
def f_X12_waysLeft_s4  (s4 : Int32 × Int32 × ea_M) : Option ((Int32 × Int32 × ea_M) ⊕ (Int32 × ea_M)) :=
  if 8 ≤ s4.2.1 then
  some (.inr (s4.1, s4.2.2))
  else
  ea_bd (s4.1 * 3) fun x1 =>
  some (.inl (x1, s4.2.1 + 1, s4.2.2))
def f_X12_waysLeft (p1 : Int32) (m : ea_M) : Option (Int32 × ea_M) :=
  (ea_loop f_X12_waysLeft_s4 ea_fuel (1, p1, m)).bind (fun x4s =>
  some (x4s.1, x4s.2))
set_option maxHeartbeats 300000 in
theorem lp_X12_waysLeft_4 (G : ea_G) {res : ea_O}    {Ψ : (Int32 × ea_M) → Prop} (hX : ∀ x4s : Int32 × ea_M, Ψ x4s → ea_Ev G F_X12_waysLeft res 20 [none, some (.int x4s.1), none] [] x4s.2 0 0) : ∀ (f : Nat) (s4 : Int32 × Int32 × ea_M), ea_E G F_X12_waysLeft res 4 [none, some (.int s4.1), some (.int s4.2.1)] [] s4.2.2 0 0 (ea_loop f_X12_waysLeft_s4 f s4) Ψ := by
  refine ev_loop (G := G) (F := F_X12_waysLeft) (res := res) (pc := 4) (st := []) (k := 0) (n := 0) (step := f_X12_waysLeft_s4) (Ψ := Ψ) (fun (s4 : Int32 × Int32 × ea_M) => [none, some (.int s4.1), some (.int s4.2.1)]) (fun (s4 : Int32 × Int32 × ea_M) => s4.2.2) (fun s4 => ?_)
  have hC : ∀ s4 : Int32 × Int32 × ea_M, (Sum.elim (fun s4 : Int32 × Int32 × ea_M => ea_Ev G F_X12_waysLeft res 4 [none, some (.int s4.1), some (.int s4.2.1)] [] s4.2.2 0 0) Ψ) (.inl s4) → ea_Ev G F_X12_waysLeft res 4 [none, some (.int s4.1), some (.int s4.2.1)] [] s4.2.2 0 0 := fun _ h => h
  have hX : ∀ x4s : Int32 × ea_M, (Sum.elim (fun s4 : Int32 × Int32 × ea_M => ea_Ev G F_X12_waysLeft res 4 [none, some (.int s4.1), some (.int s4.2.1)] [] s4.2.2 0 0) Ψ) (.inr x4s) → ea_Ev G F_X12_waysLeft res 20 [none, some (.int x4s.1), none] [] x4s.2 0 0 := hX
  unfold f_X12_waysLeft_s4
  refine ev_iload_n (ea_at dt_X12_waysLeft 4 rfl) rfl ?_
  refine ev_bipush (ea_at dt_X12_waysLeft 5 rfl) bp_8 ?_
  refine ev_icmp_ge (tgt := 20) (ea_at dt_X12_waysLeft 6 rfl) rfl (fun _ => ?_) (fun _ => ?_)
  · exact ev_leaf (fun h => ea_drop (l' := [none, some (.int s4.1), none]) ⟨Or.inl rfl, Or.inr rfl, Or.inl rfl, trivial⟩ (hX (s4.1, s4.2.2) h))
  · refine ev_iload_n (ea_at dt_X12_waysLeft 7 rfl) rfl ?_
    refine ev_iconst (ea_at dt_X12_waysLeft 8 rfl) ic_3 ?_
    refine ev_imul (ea_at dt_X12_waysLeft 9 rfl) ?_
    refine ev_i (fun x1 => ?_)
    refine ev_istore_n (ls' := [none, some (.int x1), some (.int s4.2.1)]) (ea_at dt_X12_waysLeft 10 rfl) (ea_lt rfl) rfl ?_
    refine ev_iinc (ls' := [none, some (.int x1), some (.int (s4.2.1 + 1))]) (ea_at dt_X12_waysLeft 11 rfl) rfl (congrArg (fun z => _ + z) ic_1) (ea_lt rfl) rfl ?_
    refine ev_goto (tgt := 4) (ea_at dt_X12_waysLeft 12 rfl) rfl ?_
    exact ev_leaf (fun h => ea_drop (l' := [none, some (.int x1), some (.int (s4.2.1 + 1))]) ⟨Or.inl rfl, Or.inr rfl, Or.inr rfl, trivial⟩ (hC (x1, s4.2.1 + 1, s4.2.2) h))
set_option maxHeartbeats 300000 in
theorem ok_X12_waysLeft (G : ea_G) (p1 : Int32) (m : ea_M)  (rZ : Int32) (mZ : ea_M) (hZ : f_X12_waysLeft p1 m = some (rZ, mZ)) : ea_Met G yX12_waysLeft F_X12_waysLeft [.int p1] m (0, rZ, mZ) := by
  refine ea_met (F := F_X12_waysLeft) (by decide +kernel) rfl rfl (Nat.le_of_ble_eq_true rfl) (by simp only [List.mem_cons, List.not_mem_nil, or_false]; intro v hv; rcases hv with rfl <;> rfl) ((?_ : ea_E G F_X12_waysLeft (0, rZ, mZ) 0 [some (.int p1), none, none] [] m 0 0 (f_X12_waysLeft p1 m) (fun t => t = (rZ, mZ))) (rZ, mZ) hZ rfl)
  have hR : ∀ t : Int32 × ea_M, t = (rZ, mZ) → ((0, rZ, mZ) : ea_O) = (0, t) := fun t h => by rw [h]
  unfold f_X12_waysLeft
  refine ev_iconst (ea_at dt_X12_waysLeft 0 rfl) ic_1 ?_
  refine ev_istore_n (ls' := [some (.int p1), some (.int 1), none]) (ea_at dt_X12_waysLeft 1 rfl) (ea_lt rfl) rfl ?_
  refine ev_iload_n (ea_at dt_X12_waysLeft 2 rfl) rfl ?_
  refine ev_istore_n (ls' := [some (.int p1), some (.int 1), some (.int p1)]) (ea_at dt_X12_waysLeft 3 rfl) (ea_lt rfl) rfl ?_
  refine ev_drop (l' := [none, some (.int 1), some (.int p1)]) ⟨Or.inl rfl, Or.inr rfl, Or.inr rfl, trivial⟩ ?_
  refine ev_bind (lp_X12_waysLeft_4 G   (fun x4s h => ?_) ea_fuel (1, p1, m))
  obtain ⟨t1, e1, q1⟩ := h
  refine (?_ : ea_E G F_X12_waysLeft (0, rZ, mZ) 20 [none, some (.int x4s.1), none] [] x4s.2 0 0 _ (fun t => t = (rZ, mZ))) t1 e1 q1
  refine ev_iload_n (ea_at dt_X12_waysLeft 13 rfl) rfl ?_
  exact ev_iret (ea_at dt_X12_waysLeft 14 rfl) rfl ⟨by decide, by decide⟩ (fun h => hR _ h)
def F_X12_goesOn : ea_F := (ea_rm 14 0 0, cX12_goesOn, RX12, none, 9, [], 0, 0)
def D_X12_goesOn : List (Nat × Instr × Nat) := [(0, .aload_n 0, 1), (1, .getfield 42, 3), (4, .iload_n 1, 1), (5, .iload_n 2, 1), (6, .invokestatic 322, 3), (9, .iaload, 1), (10, .istore 4, 2), (12, .aload_n 0, 1), (13, .aload_n 0, 1), (14, .getfield 268, 3), (17, .iload_n 1, 1), (18, .iload_n 2, 1), (19, .iload_n 3, 1), (20, .invokevirtual 312, 3), (23, .iload_n 1, 1), (24, .aload_n 0, 1), (25, .invokevirtual 319, 3), (28, .isub, 1), (29, .istore 5, 2), (31, .aload_n 0, 1), (32, .invokevirtual 316, 3), (35, .istore 6, 2), (37, .iconst (-1), 1), (38, .istore 7, 2), (40, .iload 7, 2), (42, .iconst 1, 1), (43, .if_icmp .gt 106, 3), (46, .iload_n 2, 1), (47, .iload 6, 2), (49, .iadd, 1), (50, .aload_n 0, 1), (51, .aload_n 0, 1), (52, .getfield 268, 3), (55, .iload 7, 2), (57, .invokevirtual 325, 3), (60, .iadd, 1), (61, .istore 8, 2), (63, .iload 8, 2), (65, .invokestatic 309, 3), (68, .ifCond .eq 24, 3), (71, .aload_n 0, 1), (72, .dup, 1), (73, .getfield 328, 3), (76, .iload 4, 2), (78, .iload_n 3, 1), (79, .iconst 1, 1), (80, .iadd, 1), (81, .invokestatic 331, 3), (84, .imul, 1), (85, .iadd, 1), (86, .putfield 328, 3), (89, .goto 54, 3), (92, .iload 5, 2), (94, .ifCond .gt 32, 3), (97, .aload_n 0, 1), (98, .getfield 48, 3), (101, .bipush 16, 2), (103, .iload_n 3, 1), (104, .iconst 1, 1), (105, .iadd, 1), (106, .imul, 1), (107, .iload 8, 2), (109, .iadd, 1), (110, .dup2, 1), (111, .iaload, 1), (112, .iload 4, 2), (114, .iload_n 3, 1), (115, .iconst 1, 1), (116, .iadd, 1), (117, .invokestatic 331, 3), (120, .imul, 1), (121, .iadd, 1), (122, .iastore, 1), (123, .goto 20, 3), (126, .aload_n 0, 1), (127, .getfield 45, 3), (130, .iload 5, 2), (132, .iload 8, 2), (134, .invokestatic 322, 3), (137, .dup2, 1), (138, .iaload, 1), (139, .iload 4, 2), (141, .iadd, 1), (142, .iastore, 1), (143, .iinc 7 1, 3), (146, .goto (-106), 3), (149, .return_, 1)]
theorem dt_X12_goesOn : ∀ q ∈ D_X12_goesOn, decode cX12_goesOn q.1 = .ok q.2 := by decide +kernel
theorem mv_X12_goesOn : ea_MV yX12_goesOn (F_X12_goesOn) 3 := ⟨⟨List.mem_append_right _ (List.mem_of_getElem? (i := 13) (by decide +kernel)), List.mem_append_right _ (List.mem_of_getElem? (i := 1760) (by decide +kernel)), ⟨by decide, by decide⟩, by decide +kernel⟩, List.mem_append_right _ (List.mem_of_getElem? (i := 1759) (by decide +kernel)), List.mem_append_left _ (List.mem_of_getElem? (i := 84) (by decide +kernel))⟩
def f_X12_goesOn_j143 (p2 : Int32) (p3 : Int32) (x3 : Int32) (x9 : Int32) (r11 : Int32) (x22 : Int32) (m23 : ea_M) : Option ((Int32 × ea_M) ⊕ (ea_M)) :=
  some (.inl (x22 + 1, m23))
def f_X12_goesOn_s40 (p2 : Int32) (p3 : Int32) (x3 : Int32) (x9 : Int32) (r11 : Int32)  (s40 : Int32 × ea_M) : Option ((Int32 × ea_M) ⊕ (ea_M)) :=
  if 1 < s40.1 then
  some (.inr s40.2)
  else
  ea_bd (s40.2 272 18) fun x12 =>
  ea_cl (f_X12_driftOf x12 s40.1 s40.2) fun r14 m13 =>
  ea_bd ((p2 + r11) + r14) fun x15 =>
  ea_cl (f_X12_noColumn x15 m13) fun r17 m16 =>
  if r17 = 0 then
  if 0 < x9 then
  ea_cl (f_X12_at x9 x15 m16) fun r19 m18 =>
  ea_g r19 208 (ea_bd (m18 282 (Int32.toNatClampNeg r19)) fun x20 =>
  ea_g r19 208 (ea_bd (ea_st m18 282 (Int32.toNatClampNeg r19) (x20 + x3)) fun m21 =>
  f_X12_goesOn_j143 p2 p3 x3 x9 r11 s40.1 m21))
  else
  ea_bd (16 * (p3 + 1)) fun x24 =>
  ea_g (x24 + x15) 144 (ea_bd (m16 283 (Int32.toNatClampNeg (x24 + x15))) fun x25 =>
  ea_cl (f_X12_waysLeft (p3 + 1) m16) fun r27 m26 =>
  ea_bd (x25 + (x3 * r27)) fun x28 =>
  ea_g (x24 + x15) 144 (ea_bd (ea_st m26 283 (Int32.toNatClampNeg (x24 + x15)) x28) fun m29 =>
  f_X12_goesOn_j143 p2 p3 x3 x9 r11 s40.1 m29))
  else
  ea_bd (m16 272 25) fun x30 =>
  ea_cl (f_X12_waysLeft (p3 + 1) m16) fun r32 m31 =>
  ea_bd (x30 + (x3 * r32)) fun x33 =>
  ea_bd (ea_st m31 272 25 x33) fun m34 =>
  f_X12_goesOn_j143 p2 p3 x3 x9 r11 s40.1 m34
def f_X12_goesOn (p1 : Int32) (p2 : Int32) (p3 : Int32) (m : ea_M) : Option (Int32 × ea_M) :=
  ea_cl (f_X12_at p1 p2 m) fun r2 m1 =>
  ea_g r2 208 (ea_bd (m1 281 (Int32.toNatClampNeg r2)) fun x3 =>
  ea_bd (m1 272 18) fun x4 =>
  ea_cl (f_X12_looks x4 p1 p2 p3 m1) fun r6 m5 =>
  ea_cl (f_X12_sinks m5) fun r8 m7 =>
  ea_bd (p1 - r8) fun x9 =>
  ea_cl (f_X12_carries m7) fun r11 m10 =>
  (ea_loop (f_X12_goesOn_s40 p2 p3 x3 x9 r11) ea_fuel ((-1), m10)).bind (fun x40s =>
  some (0, x40s)))
set_option maxHeartbeats 300000 in
theorem jn_X12_goesOn_143 (G : ea_G) {res : ea_O}  (p2 : Int32) (p3 : Int32) (x3 : Int32) (x9 : Int32) (r11 : Int32) (x22 : Int32) (m23 : ea_M)  {Φ : ((Int32 × ea_M) ⊕ (ea_M)) → Prop} (hC : ∀ s40 : Int32 × ea_M, Φ (.inl s40) → ea_Ev G F_X12_goesOn res 40 [some (.ref 272), none, some (.int p2), some (.int p3), some (.int x3), some (.int x9), some (.int r11), some (.int s40.1), none] [] s40.2 0 0) (hX : ∀ x40s : ea_M, Φ (.inr x40s) → ea_Ev G F_X12_goesOn res 149 [none, none, none, none, none, none, none, none, none] [] x40s 0 0) : ea_E G F_X12_goesOn res 143 [some (.ref 272), none, some (.int p2), some (.int p3), some (.int x3), some (.int x9), some (.int r11), some (.int x22), none] [] m23 0 0 (f_X12_goesOn_j143 p2 p3 x3 x9 r11 x22 m23) Φ := by
  unfold f_X12_goesOn_j143
  refine ev_iinc (ls' := [some (.ref 272), none, some (.int p2), some (.int p3), some (.int x3), some (.int x9), some (.int r11), some (.int (x22 + 1)), none]) (ea_at dt_X12_goesOn 84 rfl) rfl (congrArg (fun z => _ + z) ic_1) (ea_lt rfl) rfl ?_
  refine ev_goto (tgt := 40) (ea_at dt_X12_goesOn 85 rfl) rfl ?_
  exact ev_leaf (fun h => ea_drop (l' := [some (.ref 272), none, some (.int p2), some (.int p3), some (.int x3), some (.int x9), some (.int r11), some (.int (x22 + 1)), none]) ⟨Or.inr rfl, Or.inl rfl, Or.inr rfl, Or.inr rfl, Or.inr rfl, Or.inr rfl, Or.inr rfl, Or.inr rfl, Or.inl rfl, trivial⟩ (hC (x22 + 1, m23) h))
set_option maxHeartbeats 300000 in
theorem lp_X12_goesOn_40 (G : ea_G) {res : ea_O}  (p2 : Int32) (p3 : Int32) (x3 : Int32) (x9 : Int32) (r11 : Int32)  {Ψ : ea_M → Prop} (hX : ∀ x40s : ea_M, Ψ x40s → ea_Ev G F_X12_goesOn res 149 [none, none, none, none, none, none, none, none, none] [] x40s 0 0) : ∀ (f : Nat) (s40 : Int32 × ea_M), ea_E G F_X12_goesOn res 40 [some (.ref 272), none, some (.int p2), some (.int p3), some (.int x3), some (.int x9), some (.int r11), some (.int s40.1), none] [] s40.2 0 0 (ea_loop (f_X12_goesOn_s40 p2 p3 x3 x9 r11) f s40) Ψ := by
  refine ev_loop (G := G) (F := F_X12_goesOn) (res := res) (pc := 40) (st := []) (k := 0) (n := 0) (step := (f_X12_goesOn_s40 p2 p3 x3 x9 r11)) (Ψ := Ψ) (fun (s40 : Int32 × ea_M) => [some (.ref 272), none, some (.int p2), some (.int p3), some (.int x3), some (.int x9), some (.int r11), some (.int s40.1), none]) (fun (s40 : Int32 × ea_M) => s40.2) (fun s40 => ?_)
  have hC : ∀ s40 : Int32 × ea_M, (Sum.elim (fun s40 : Int32 × ea_M => ea_Ev G F_X12_goesOn res 40 [some (.ref 272), none, some (.int p2), some (.int p3), some (.int x3), some (.int x9), some (.int r11), some (.int s40.1), none] [] s40.2 0 0) Ψ) (.inl s40) → ea_Ev G F_X12_goesOn res 40 [some (.ref 272), none, some (.int p2), some (.int p3), some (.int x3), some (.int x9), some (.int r11), some (.int s40.1), none] [] s40.2 0 0 := fun _ h => h
  have hX : ∀ x40s : ea_M, (Sum.elim (fun s40 : Int32 × ea_M => ea_Ev G F_X12_goesOn res 40 [some (.ref 272), none, some (.int p2), some (.int p3), some (.int x3), some (.int x9), some (.int r11), some (.int s40.1), none] [] s40.2 0 0) Ψ) (.inr x40s) → ea_Ev G F_X12_goesOn res 149 [none, none, none, none, none, none, none, none, none] [] x40s 0 0 := hX
  unfold f_X12_goesOn_s40
  refine ev_iload (ea_at dt_X12_goesOn 24 rfl) rfl ?_
  refine ev_iconst (ea_at dt_X12_goesOn 25 rfl) ic_1 ?_
  refine ev_icmp_gt (tgt := 149) (ea_at dt_X12_goesOn 26 rfl) rfl (fun _ => ?_) (fun _ => ?_)
  · exact ev_leaf (fun h => ea_drop (l' := [none, none, none, none, none, none, none, none, none]) ⟨Or.inl rfl, Or.inl rfl, Or.inl rfl, Or.inl rfl, Or.inl rfl, Or.inl rfl, Or.inl rfl, Or.inl rfl, Or.inl rfl, trivial⟩ (hX s40.2 h))
  · refine ev_iload_n (ea_at dt_X12_goesOn 27 rfl) rfl ?_
    refine ev_iload (ea_at dt_X12_goesOn 28 rfl) rfl ?_
    refine ev_iadd (ea_at dt_X12_goesOn 29 rfl) ?_
    refine ev_aload_n (ea_at dt_X12_goesOn 30 rfl) rfl ?_
    refine ev_aload_n (ea_at dt_X12_goesOn 31 rfl) rfl ?_
    refine ev_getI (ea_at dt_X12_goesOn 32 rfl) fl_X12_268 sh_272 rfl ?_
    refine ev_i (fun x12 => ?_)
    refine ev_iload (ea_at dt_X12_goesOn 33 rfl) rfl ?_
    refine ev_clI (F1 := F_X12_driftOf) (fun rY mY hY => ea_runV (As := [.int x12, .int s40.1]) (ea_at dt_X12_goesOn 34 rfl) ml_X12_325 mv_X12_driftOf (ok_X12_driftOf G x12 s40.1 s40.2  rY mY hY) sh_272 rfl rfl rfl (Nat.le_of_ble_eq_true rfl) rfl) rfl (fun r14 m13 => ?_)
    refine ev_iadd (ea_at dt_X12_goesOn 35 rfl) ?_
    refine ev_i (fun x15 => ?_)
    refine ev_istore (ls' := [some (.ref 272), none, some (.int p2), some (.int p3), some (.int x3), some (.int x9), some (.int r11), some (.int s40.1), some (.int x15)]) (ea_at dt_X12_goesOn 36 rfl) (ea_lt rfl) rfl ?_
    refine ev_iload (ea_at dt_X12_goesOn 37 rfl) rfl ?_
    refine ev_clI (F1 := F_X12_noColumn) (fun rY mY hY => ea_runS (As := [.int x15]) (ea_at dt_X12_goesOn 38 rfl) ml_X12_309 mv_X12_noColumn (ok_X12_noColumn G x15 m13  rY mY hY) rfl rfl (Nat.le_of_ble_eq_true rfl) rfl) rfl (fun r17 m16 => ?_)
    refine ev_if_eq (tgt := 92) (ea_at dt_X12_goesOn 39 rfl) rfl (fun _ => ?_) (fun _ => ?_)
    · refine ev_iload (ea_at dt_X12_goesOn 52 rfl) rfl ?_
      refine ev_if_gt (tgt := 126) (ea_at dt_X12_goesOn 53 rfl) rfl (fun _ => ?_) (fun _ => ?_)
      · refine ev_aload_n (ea_at dt_X12_goesOn 74 rfl) rfl ?_
        refine ev_getR (ea_at dt_X12_goesOn 75 rfl) fl_X12_45 sh_272 rfl ?_
        refine ev_iload (ea_at dt_X12_goesOn 76 rfl) rfl ?_
        refine ev_iload (ea_at dt_X12_goesOn 77 rfl) rfl ?_
        refine ev_clI (F1 := F_X12_at) (fun rY mY hY => ea_runS (As := [.int x9, .int x15]) (ea_at dt_X12_goesOn 78 rfl) ml_X12_322 mv_X12_at (ok_X12_at G x9 x15 m16  rY mY hY) rfl rfl (Nat.le_of_ble_eq_true rfl) rfl) rfl (fun r19 m18 => ?_)
        refine ev_dup2 (ea_at dt_X12_goesOn 79 rfl) rfl rfl ?_
        refine ev_iaload (ea_at dt_X12_goesOn 80 rfl) sh_282 (by decide) ?_
        refine ev_i (fun x20 => ?_)
        refine ev_iload (ea_at dt_X12_goesOn 81 rfl) rfl ?_
        refine ev_iadd (ea_at dt_X12_goesOn 82 rfl) ?_
        refine ev_iastore (ea_at dt_X12_goesOn 83 rfl) sh_282 (by decide) ?_
        refine ev_m (fun m21 => ?_)
        exact ev_drop (l' := [some (.ref 272), none, some (.int p2), some (.int p3), some (.int x3), some (.int x9), some (.int r11), some (.int s40.1), none]) ⟨Or.inr rfl, Or.inl rfl, Or.inr rfl, Or.inr rfl, Or.inr rfl, Or.inr rfl, Or.inr rfl, Or.inr rfl, Or.inl rfl, trivial⟩ (jn_X12_goesOn_143 G p2 p3 x3 x9 r11 s40.1 m21  hC hX)
      · refine ev_aload_n (ea_at dt_X12_goesOn 54 rfl) rfl ?_
        refine ev_getR (ea_at dt_X12_goesOn 55 rfl) fl_X12_48 sh_272 rfl ?_
        refine ev_bipush (ea_at dt_X12_goesOn 56 rfl) bp_16 ?_
        refine ev_iload_n (ea_at dt_X12_goesOn 57 rfl) rfl ?_
        refine ev_iconst (ea_at dt_X12_goesOn 58 rfl) ic_1 ?_
        refine ev_iadd (ea_at dt_X12_goesOn 59 rfl) ?_
        refine ev_imul (ea_at dt_X12_goesOn 60 rfl) ?_
        refine ev_i (fun x24 => ?_)
        refine ev_iload (ea_at dt_X12_goesOn 61 rfl) rfl ?_
        refine ev_iadd (ea_at dt_X12_goesOn 62 rfl) ?_
        refine ev_dup2 (ea_at dt_X12_goesOn 63 rfl) rfl rfl ?_
        refine ev_iaload (ea_at dt_X12_goesOn 64 rfl) sh_283 (by decide) ?_
        refine ev_i (fun x25 => ?_)
        refine ev_iload (ea_at dt_X12_goesOn 65 rfl) rfl ?_
        refine ev_iload_n (ea_at dt_X12_goesOn 66 rfl) rfl ?_
        refine ev_iconst (ea_at dt_X12_goesOn 67 rfl) ic_1 ?_
        refine ev_iadd (ea_at dt_X12_goesOn 68 rfl) ?_
        refine ev_clI (F1 := F_X12_waysLeft) (fun rY mY hY => ea_runS (As := [.int (p3 + 1)]) (ea_at dt_X12_goesOn 69 rfl) ml_X12_331 mv_X12_waysLeft (ok_X12_waysLeft G (p3 + 1) m16  rY mY hY) rfl rfl (Nat.le_of_ble_eq_true rfl) rfl) rfl (fun r27 m26 => ?_)
        refine ev_imul (ea_at dt_X12_goesOn 70 rfl) ?_
        refine ev_iadd (ea_at dt_X12_goesOn 71 rfl) ?_
        refine ev_i (fun x28 => ?_)
        refine ev_iastore (ea_at dt_X12_goesOn 72 rfl) sh_283 (by decide) ?_
        refine ev_m (fun m29 => ?_)
        refine ev_goto (tgt := 143) (ea_at dt_X12_goesOn 73 rfl) rfl ?_
        exact ev_drop (l' := [some (.ref 272), none, some (.int p2), some (.int p3), some (.int x3), some (.int x9), some (.int r11), some (.int s40.1), none]) ⟨Or.inr rfl, Or.inl rfl, Or.inr rfl, Or.inr rfl, Or.inr rfl, Or.inr rfl, Or.inr rfl, Or.inr rfl, Or.inl rfl, trivial⟩ (jn_X12_goesOn_143 G p2 p3 x3 x9 r11 s40.1 m29  hC hX)
    · refine ev_aload_n (ea_at dt_X12_goesOn 40 rfl) rfl ?_
      refine ev_dup (ea_at dt_X12_goesOn 41 rfl) rfl ?_
      refine ev_getI (ea_at dt_X12_goesOn 42 rfl) fl_X12_328 sh_272 rfl ?_
      refine ev_i (fun x30 => ?_)
      refine ev_iload (ea_at dt_X12_goesOn 43 rfl) rfl ?_
      refine ev_iload_n (ea_at dt_X12_goesOn 44 rfl) rfl ?_
      refine ev_iconst (ea_at dt_X12_goesOn 45 rfl) ic_1 ?_
      refine ev_iadd (ea_at dt_X12_goesOn 46 rfl) ?_
      refine ev_clI (F1 := F_X12_waysLeft) (fun rY mY hY => ea_runS (As := [.int (p3 + 1)]) (ea_at dt_X12_goesOn 47 rfl) ml_X12_331 mv_X12_waysLeft (ok_X12_waysLeft G (p3 + 1) m16  rY mY hY) rfl rfl (Nat.le_of_ble_eq_true rfl) rfl) rfl (fun r32 m31 => ?_)
      refine ev_imul (ea_at dt_X12_goesOn 48 rfl) ?_
      refine ev_iadd (ea_at dt_X12_goesOn 49 rfl) ?_
      refine ev_i (fun x33 => ?_)
      refine ev_putI (ea_at dt_X12_goesOn 50 rfl) fl_X12_328 fp_12_25 sh_272 rfl ?_
      refine ev_m (fun m34 => ?_)
      refine ev_goto (tgt := 143) (ea_at dt_X12_goesOn 51 rfl) rfl ?_
      exact ev_drop (l' := [some (.ref 272), none, some (.int p2), some (.int p3), some (.int x3), some (.int x9), some (.int r11), some (.int s40.1), none]) ⟨Or.inr rfl, Or.inl rfl, Or.inr rfl, Or.inr rfl, Or.inr rfl, Or.inr rfl, Or.inr rfl, Or.inr rfl, Or.inl rfl, trivial⟩ (jn_X12_goesOn_143 G p2 p3 x3 x9 r11 s40.1 m34  hC hX)
set_option maxHeartbeats 300000 in
theorem ok_X12_goesOn (G : ea_G) (p1 : Int32) (p2 : Int32) (p3 : Int32) (m : ea_M)  (rZ : Int32) (mZ : ea_M) (hZ : f_X12_goesOn p1 p2 p3 m = some (rZ, mZ)) : ea_Met G yX12_goesOn F_X12_goesOn [.ref 272, .int p1, .int p2, .int p3] m (0, rZ, mZ) := by
  refine ea_met (F := F_X12_goesOn) (by decide +kernel) rfl rfl (Nat.le_of_ble_eq_true rfl) (by simp only [List.mem_cons, List.not_mem_nil, or_false]; intro v hv; rcases hv with rfl | rfl | rfl | rfl <;> rfl) ((?_ : ea_E G F_X12_goesOn (0, rZ, mZ) 0 [some (.ref 272), some (.int p1), some (.int p2), some (.int p3), none, none, none, none, none] [] m 0 0 (f_X12_goesOn p1 p2 p3 m) (fun t => t = (rZ, mZ))) (rZ, mZ) hZ rfl)
  have hR : ∀ t : Int32 × ea_M, t = (rZ, mZ) → ((0, rZ, mZ) : ea_O) = (0, t) := fun t h => by rw [h]
  unfold f_X12_goesOn
  refine ev_aload_n (ea_at dt_X12_goesOn 0 rfl) rfl ?_
  refine ev_getR (ea_at dt_X12_goesOn 1 rfl) fl_X12_42 sh_272 rfl ?_
  refine ev_iload_n (ea_at dt_X12_goesOn 2 rfl) rfl ?_
  refine ev_iload_n (ea_at dt_X12_goesOn 3 rfl) rfl ?_
  refine ev_clI (F1 := F_X12_at) (fun rY mY hY => ea_runS (As := [.int p1, .int p2]) (ea_at dt_X12_goesOn 4 rfl) ml_X12_322 mv_X12_at (ok_X12_at G p1 p2 m  rY mY hY) rfl rfl (Nat.le_of_ble_eq_true rfl) rfl) rfl (fun r2 m1 => ?_)
  refine ev_iaload (ea_at dt_X12_goesOn 5 rfl) sh_281 (by decide) ?_
  refine ev_i (fun x3 => ?_)
  refine ev_istore (ls' := [some (.ref 272), some (.int p1), some (.int p2), some (.int p3), some (.int x3), none, none, none, none]) (ea_at dt_X12_goesOn 6 rfl) (ea_lt rfl) rfl ?_
  refine ev_aload_n (ea_at dt_X12_goesOn 7 rfl) rfl ?_
  refine ev_aload_n (ea_at dt_X12_goesOn 8 rfl) rfl ?_
  refine ev_getI (ea_at dt_X12_goesOn 9 rfl) fl_X12_268 sh_272 rfl ?_
  refine ev_i (fun x4 => ?_)
  refine ev_iload_n (ea_at dt_X12_goesOn 10 rfl) rfl ?_
  refine ev_iload_n (ea_at dt_X12_goesOn 11 rfl) rfl ?_
  refine ev_iload_n (ea_at dt_X12_goesOn 12 rfl) rfl ?_
  refine ev_clU (F1 := F_X12_looks) (fun rY mY hY => ea_runV (As := [.int x4, .int p1, .int p2, .int p3]) (ea_at dt_X12_goesOn 13 rfl) ml_X12_312 mv_X12_looks (ok_X12_looks G x4 p1 p2 p3 m1  rY mY hY) sh_272 rfl rfl rfl (Nat.le_of_ble_eq_true rfl) rfl) rfl (fun r6 m5 => ?_)
  refine ev_iload_n (ea_at dt_X12_goesOn 14 rfl) rfl ?_
  refine ev_aload_n (ea_at dt_X12_goesOn 15 rfl) rfl ?_
  refine ev_clI (F1 := F_X12_sinks) (fun rY mY hY => ea_runV (As := []) (ea_at dt_X12_goesOn 16 rfl) ml_X12_319 mv_X12_sinks (ok_X12_sinks G m5  rY mY hY) sh_272 rfl rfl rfl (Nat.le_of_ble_eq_true rfl) rfl) rfl (fun r8 m7 => ?_)
  refine ev_isub (ea_at dt_X12_goesOn 17 rfl) ?_
  refine ev_i (fun x9 => ?_)
  refine ev_istore (ls' := [some (.ref 272), some (.int p1), some (.int p2), some (.int p3), some (.int x3), some (.int x9), none, none, none]) (ea_at dt_X12_goesOn 18 rfl) (ea_lt rfl) rfl ?_
  refine ev_aload_n (ea_at dt_X12_goesOn 19 rfl) rfl ?_
  refine ev_clI (F1 := F_X12_carries) (fun rY mY hY => ea_runV (As := []) (ea_at dt_X12_goesOn 20 rfl) ml_X12_316 mv_X12_carries (ok_X12_carries G m7  rY mY hY) sh_272 rfl rfl rfl (Nat.le_of_ble_eq_true rfl) rfl) rfl (fun r11 m10 => ?_)
  refine ev_istore (ls' := [some (.ref 272), some (.int p1), some (.int p2), some (.int p3), some (.int x3), some (.int x9), some (.int r11), none, none]) (ea_at dt_X12_goesOn 21 rfl) (ea_lt rfl) rfl ?_
  refine ev_iconst (ea_at dt_X12_goesOn 22 rfl) ic_m1 ?_
  refine ev_istore (ls' := [some (.ref 272), some (.int p1), some (.int p2), some (.int p3), some (.int x3), some (.int x9), some (.int r11), some (.int (-1)), none]) (ea_at dt_X12_goesOn 23 rfl) (ea_lt rfl) rfl ?_
  refine ev_drop (l' := [some (.ref 272), none, some (.int p2), some (.int p3), some (.int x3), some (.int x9), some (.int r11), some (.int (-1)), none]) ⟨Or.inr rfl, Or.inl rfl, Or.inr rfl, Or.inr rfl, Or.inr rfl, Or.inr rfl, Or.inr rfl, Or.inr rfl, Or.inl rfl, trivial⟩ ?_
  refine ev_bind (lp_X12_goesOn_40 G p2 p3 x3 x9 r11   (fun x40s h => ?_) ea_fuel ((-1), m10))
  obtain ⟨t1, e1, q1⟩ := h
  refine (?_ : ea_E G F_X12_goesOn (0, rZ, mZ) 149 [none, none, none, none, none, none, none, none, none] [] x40s 0 0 _ (fun t => t = (rZ, mZ))) t1 e1 q1
  exact ev_vret (ea_at dt_X12_goesOn 86 rfl) rfl ⟨by decide, by decide⟩ (fun h => ⟨0, hR _ h⟩)
