def F_X8_takesBoth (r0 : Nat) : ea_F := (ea_rm (18 + 4 * r0) 0 0, cX8_takesBoth, RX8, some .boolean, 4, [], 0, 0)
def D_X8_takesBoth : List (Nat × Instr × Nat) := [(0, .aload_n 0, 1), (1, .iload_n 1, 1), (2, .invokevirtual 98, 3), (5, .istore_n 2, 1), (6, .iconst 0, 1), (7, .istore_n 3, 1), (8, .iload_n 3, 1), (9, .sipush 400, 3), (12, .if_icmp .ge 47, 3), (15, .iload_n 2, 1), (16, .ifCond .eq 43, 3), (19, .aload_n 0, 1), (20, .getfield 14, 3), (23, .ldc 101, 2), (25, .invokevirtual 71, 3), (28, .ifCond .eq 31, 3), (31, .aload_n 0, 1), (32, .getfield 14, 3), (35, .invokevirtual 55, 3), (38, .aload_n 0, 1), (39, .iload_n 1, 1), (40, .invokevirtual 98, 3), (43, .istore_n 2, 1), (44, .aload_n 0, 1), (45, .getfield 20, 3), (48, .bipush (-13), 2), (50, .invokevirtual 95, 3), (53, .iinc 3 1, 3), (56, .goto (-48), 3), (59, .iload_n 2, 1), (60, .ireturn, 1)]
theorem dt_X8_takesBoth : ∀ q ∈ D_X8_takesBoth, decode cX8_takesBoth q.1 = .ok q.2 := by decide +kernel
theorem mv0_X8_takesBoth : ea_MV yX8_takesBoth (F_X8_takesBoth 0) 1 := ⟨⟨List.mem_append_right _ (List.mem_of_getElem? (i := 8) (by decide +kernel)), List.mem_append_right _ (List.mem_of_getElem? (i := 924) (by decide +kernel)), ⟨by decide, by decide⟩, by decide +kernel⟩, List.mem_append_right _ (List.mem_of_getElem? (i := 923) (by decide +kernel)), List.mem_append_left _ (List.mem_of_getElem? (i := 20) (by decide +kernel))⟩
theorem mv_X8_takesBoth (r0 : Nat) : ea_MV yX8_takesBoth (F_X8_takesBoth r0) 1 := mv0_X8_takesBoth
def F_X8_takesNot (r0 : Nat) : ea_F := (ea_rm (18 + 4 * r0) 0 0, cX8_takesNot, RX8, some .boolean, 2, [], 0, 0)
def D_X8_takesNot : List (Nat × Instr × Nat) := [(0, .aload_n 0, 1), (1, .iload_n 1, 1), (2, .invokevirtual 98, 3), (5, .ifCond .ne 5, 3), (8, .iconst 0, 1), (9, .ireturn, 1), (10, .aload_n 0, 1), (11, .getfield 20, 3), (14, .bipush (-12), 2), (16, .invokevirtual 95, 3), (19, .iconst 1, 1), (20, .ireturn, 1)]
theorem dt_X8_takesNot : ∀ q ∈ D_X8_takesNot, decode cX8_takesNot q.1 = .ok q.2 := by decide +kernel
theorem mv0_X8_takesNot : ea_MV yX8_takesNot (F_X8_takesNot 0) 1 := ⟨⟨List.mem_append_right _ (List.mem_of_getElem? (i := 8) (by decide +kernel)), List.mem_append_right _ (List.mem_of_getElem? (i := 934) (by decide +kernel)), ⟨by decide, by decide⟩, by decide +kernel⟩, List.mem_append_right _ (List.mem_of_getElem? (i := 933) (by decide +kernel)), List.mem_append_left _ (List.mem_of_getElem? (i := 22) (by decide +kernel))⟩
theorem mv_X8_takesNot (r0 : Nat) : ea_MV yX8_takesNot (F_X8_takesNot r0) 1 := mv0_X8_takesNot
def F_X8_takesEither (r0 : Nat) : ea_F := (ea_rm (19 + 4 * r0) 0 0, cX8_takesEither, RX8, some .boolean, 4, [], 0, 0)
def D_X8_takesEither : List (Nat × Instr × Nat) := [(0, .aload_n 0, 1), (1, .iload_n 1, 1), (2, .invokevirtual 90, 3), (5, .istore_n 2, 1), (6, .iconst 0, 1), (7, .istore_n 3, 1), (8, .iload_n 3, 1), (9, .sipush 400, 3), (12, .if_icmp .ge 47, 3), (15, .iload_n 2, 1), (16, .ifCond .eq 43, 3), (19, .aload_n 0, 1), (20, .getfield 14, 3), (23, .ldc 93, 2), (25, .invokevirtual 71, 3), (28, .ifCond .eq 31, 3), (31, .aload_n 0, 1), (32, .getfield 14, 3), (35, .invokevirtual 55, 3), (38, .aload_n 0, 1), (39, .iload_n 1, 1), (40, .invokevirtual 90, 3), (43, .istore_n 2, 1), (44, .aload_n 0, 1), (45, .getfield 20, 3), (48, .bipush (-14), 2), (50, .invokevirtual 95, 3), (53, .iinc 3 1, 3), (56, .goto (-48), 3), (59, .iload_n 2, 1), (60, .ireturn, 1)]
theorem dt_X8_takesEither : ∀ q ∈ D_X8_takesEither, decode cX8_takesEither q.1 = .ok q.2 := by decide +kernel
theorem mv0_X8_takesEither : ea_MV yX8_takesEither (F_X8_takesEither 0) 1 := ⟨⟨List.mem_append_right _ (List.mem_of_getElem? (i := 8) (by decide +kernel)), List.mem_append_right _ (List.mem_of_getElem? (i := 920) (by decide +kernel)), ⟨by decide, by decide⟩, by decide +kernel⟩, List.mem_append_right _ (List.mem_of_getElem? (i := 919) (by decide +kernel)), List.mem_append_left _ (List.mem_of_getElem? (i := 19) (by decide +kernel))⟩
theorem mv_X8_takesEither (r0 : Nat) : ea_MV yX8_takesEither (F_X8_takesEither r0) 1 := mv0_X8_takesEither
def F_X8_takesAtom (r0 : Nat) : ea_F := (ea_rm (17 + 4 * r0) 0 0, cX8_takesAtom, RX8, some .boolean, 4, [], 0, 0)
def D_X8_takesAtom : List (Nat × Instr × Nat) := [(0, .aload_n 0, 1), (1, .getfield 14, 3), (4, .ldc 103, 2), (6, .invokevirtual 71, 3), (9, .istore_n 2, 1), (10, .iload_n 2, 1), (11, .ifCond .ne 15, 3), (14, .aload_n 0, 1), (15, .getfield 14, 3), (18, .bipush 40, 2), (20, .invokevirtual 105, 3), (23, .ifCond .eq 66, 3), (26, .iload_n 1, 1), (27, .bipush 6, 2), (29, .if_icmp .lt 11, 3), (32, .aload_n 0, 1), (33, .getfield 14, 3), (36, .invokevirtual 41, 3), (39, .ireturn, 1), (40, .aload_n 0, 1), (41, .getfield 14, 3), (44, .invokevirtual 55, 3), (47, .iload_n 2, 1), (48, .ifCond .eq 13, 3), (51, .aload_n 0, 1), (52, .iload_n 1, 1), (53, .iconst 1, 1), (54, .iadd, 1), (55, .invokevirtual 108, 3), (58, .goto 30, 3), (61, .aload_n 0, 1), (62, .iload_n 1, 1), (63, .iconst 1, 1), (64, .iadd, 1), (65, .invokevirtual 75, 3), (68, .ifCond .eq 19, 3), (71, .aload_n 0, 1), (72, .getfield 14, 3), (75, .bipush 41, 2), (77, .invokevirtual 44, 3), (80, .ifCond .eq 7, 3), (83, .iconst 1, 1), (84, .goto 4, 3), (87, .iconst 0, 1), (88, .ireturn, 1), (89, .aload_n 0, 1), (90, .getfield 14, 3), (93, .ldc 111, 2), (95, .invokevirtual 71, 3), (98, .ifCond .ne 15, 3), (101, .aload_n 0, 1), (102, .getfield 14, 3), (105, .ldc 113, 2), (107, .invokevirtual 71, 3), (110, .ifCond .eq 38, 3), (113, .aload_n 0, 1), (114, .getfield 20, 3), (117, .aload_n 0, 1), (118, .getfield 14, 3), (121, .ldc 111, 2), (123, .invokevirtual 71, 3), (126, .ifCond .eq 8, 3), (129, .bipush 6, 2), (131, .goto 5, 3), (134, .bipush 7, 2), (136, .invokevirtual 115, 3), (139, .aload_n 0, 1), (140, .getfield 14, 3), (143, .invokevirtual 55, 3), (146, .iconst 1, 1), (147, .ireturn, 1), (148, .aload_n 0, 1), (149, .invokevirtual 118, 3), (152, .ifCond .ne 5, 3), (155, .iconst 0, 1), (156, .ireturn, 1), (157, .aload_n 0, 1), (158, .getfield 14, 3), (161, .bipush 60, 2), (163, .invokevirtual 105, 3), (166, .istore_n 3, 1), (167, .aload_n 0, 1), (168, .getfield 14, 3), (171, .iload_n 3, 1), (172, .ifCond .eq 8, 3), (175, .bipush 60, 2), (177, .goto 5, 3), (180, .bipush 62, 2), (182, .invokevirtual 44, 3), (185, .ifCond .eq 10, 3), (188, .aload_n 0, 1), (189, .invokevirtual 118, 3), (192, .ifCond .ne 5, 3), (195, .iconst 0, 1), (196, .ireturn, 1), (197, .aload_n 0, 1), (198, .getfield 20, 3), (201, .iload_n 3, 1), (202, .ifCond .eq 8, 3), (205, .bipush (-10), 2), (207, .goto 5, 3), (210, .bipush (-11), 2), (212, .invokevirtual 95, 3), (215, .iconst 1, 1), (216, .ireturn, 1)]
theorem dt_X8_takesAtom : ∀ q ∈ D_X8_takesAtom, decode cX8_takesAtom q.1 = .ok q.2 := by decide +kernel
theorem mv0_X8_takesAtom : ea_MV yX8_takesAtom (F_X8_takesAtom 0) 1 := ⟨⟨List.mem_append_right _ (List.mem_of_getElem? (i := 8) (by decide +kernel)), List.mem_append_right _ (List.mem_of_getElem? (i := 928) (by decide +kernel)), ⟨by decide, by decide⟩, by decide +kernel⟩, List.mem_append_right _ (List.mem_of_getElem? (i := 927) (by decide +kernel)), List.mem_append_left _ (List.mem_of_getElem? (i := 21) (by decide +kernel))⟩
theorem mv_X8_takesAtom (r0 : Nat) : ea_MV yX8_takesAtom (F_X8_takesAtom r0) 1 := mv0_X8_takesAtom
def f_X8_takesBoth_s8 (A : Int32 → ea_M → Option (Int32 × ea_M)) (p1 : Int32)  (s8 : Int32 × Int32 × ea_M) : Option ((Int32 × Int32 × ea_M) ⊕ (Int32 × ea_M)) :=
  if 400 ≤ s8.2.1 then
  some (.inr (s8.1, s8.2.2))
  else
  if s8.1 = 0 then
  some (.inr (s8.1, s8.2.2))
  else
  ea_cl (f_X9_sees 49 32 s8.2.2) fun r4 m3 =>
  if r4 = 0 then
  some (.inr (s8.1, m3))
  else
  ea_cl (f_X9_step 49 m3) fun r6 m5 =>
  ea_cl (A p1 m5) fun r8 m7 =>
  ea_cl (f_X7_put 38 (-13) m7) fun r10 m9 =>
  some (.inl (r8, s8.2.1 + 1, m9))
def f_X8_takesBoth (A : Int32 → ea_M → Option (Int32 × ea_M)) (p1 : Int32) (m : ea_M) : Option (Int32 × ea_M) :=
  ea_cl (A p1 m) fun r2 m1 =>
  (ea_loop (f_X8_takesBoth_s8 A p1) ea_fuel (r2, 0, m1)).bind (fun x8s =>
  ea_gz x8s.1 (some (x8s.1, x8s.2)))
set_option maxHeartbeats 300000 in
theorem lp_X8_takesBoth_8 (G : ea_G) {res : ea_O} (A : Int32 → ea_M → Option (Int32 × ea_M)) (r0 : Nat) (hA : ∀ (v0 : Int32) (m : ea_M) (r : Int32) (m1 : ea_M), A v0 m = some (r, m1) → ea_Met G yX8_takesAtom (F_X8_takesAtom r0) [.ref 48, .int v0] m (0, r, m1))  (p1 : Int32)  {Ψ : (Int32 × ea_M) → Prop} (hX : ∀ x8s : Int32 × ea_M, Ψ x8s → ea_Ev G (F_X8_takesBoth r0) res 59 [none, none, some (.int x8s.1), none] [] x8s.2 0 0) : ∀ (f : Nat) (s8 : Int32 × Int32 × ea_M), ea_E G (F_X8_takesBoth r0) res 8 [some (.ref 48), some (.int p1), some (.int s8.1), some (.int s8.2.1)] [] s8.2.2 0 0 (ea_loop (f_X8_takesBoth_s8 A p1) f s8) Ψ := by
  refine ev_loop (G := G) (F := (F_X8_takesBoth r0)) (res := res) (pc := 8) (st := []) (k := 0) (n := 0) (step := (f_X8_takesBoth_s8 A p1)) (Ψ := Ψ) (fun (s8 : Int32 × Int32 × ea_M) => [some (.ref 48), some (.int p1), some (.int s8.1), some (.int s8.2.1)]) (fun (s8 : Int32 × Int32 × ea_M) => s8.2.2) (fun s8 => ?_)
  have hC : ∀ s8 : Int32 × Int32 × ea_M, (Sum.elim (fun s8 : Int32 × Int32 × ea_M => ea_Ev G (F_X8_takesBoth r0) res 8 [some (.ref 48), some (.int p1), some (.int s8.1), some (.int s8.2.1)] [] s8.2.2 0 0) Ψ) (.inl s8) → ea_Ev G (F_X8_takesBoth r0) res 8 [some (.ref 48), some (.int p1), some (.int s8.1), some (.int s8.2.1)] [] s8.2.2 0 0 := fun _ h => h
  have hX : ∀ x8s : Int32 × ea_M, (Sum.elim (fun s8 : Int32 × Int32 × ea_M => ea_Ev G (F_X8_takesBoth r0) res 8 [some (.ref 48), some (.int p1), some (.int s8.1), some (.int s8.2.1)] [] s8.2.2 0 0) Ψ) (.inr x8s) → ea_Ev G (F_X8_takesBoth r0) res 59 [none, none, some (.int x8s.1), none] [] x8s.2 0 0 := hX
  unfold f_X8_takesBoth_s8
  refine ev_iload_n (ea_at dt_X8_takesBoth 6 rfl) rfl ?_
  refine ev_sipush (ea_at dt_X8_takesBoth 7 rfl) sp_400 ?_
  refine ev_icmp_ge (tgt := 59) (ea_at dt_X8_takesBoth 8 rfl) rfl (fun _ => ?_) (fun _ => ?_)
  · exact ev_leaf (fun h => ea_drop (l' := [none, none, some (.int s8.1), none]) ⟨Or.inl rfl, Or.inl rfl, Or.inr rfl, Or.inl rfl, trivial⟩ (hX (s8.1, s8.2.2) h))
  · refine ev_iload_n (ea_at dt_X8_takesBoth 9 rfl) rfl ?_
    refine ev_if_eq (tgt := 59) (ea_at dt_X8_takesBoth 10 rfl) rfl (fun _ => ?_) (fun _ => ?_)
    · exact ev_leaf (fun h => ea_drop (l' := [none, none, some (.int s8.1), none]) ⟨Or.inl rfl, Or.inl rfl, Or.inr rfl, Or.inl rfl, trivial⟩ (hX (s8.1, s8.2.2) h))
    · refine ev_aload_n (ea_at dt_X8_takesBoth 11 rfl) rfl ?_
      refine ev_getR (ea_at dt_X8_takesBoth 12 rfl) fl_X8_14 sh_48 rfl ?_
      refine ev_ldcS (j := 32) (ea_at dt_X8_takesBoth 13 rfl) rfl ?_
      refine ev_clI (F1 := F_X9_sees) (fun rY mY hY => ea_runV (As := [.ref (1000 + 32)]) (ea_at dt_X8_takesBoth 14 rfl) ml_X8_71 mv_X9_sees (ok_X9_sees G 49 32 s8.2.2 is_Reader_49 (by decide) rY mY hY) sh_49 rfl rfl rfl (Nat.le_of_ble_eq_true rfl) (ea_okR (by omega) (by decide))) rfl (fun r4 m3 => ?_)
      refine ev_if_eq (tgt := 59) (ea_at dt_X8_takesBoth 15 rfl) rfl (fun _ => ?_) (fun _ => ?_)
      · exact ev_leaf (fun h => ea_drop (l' := [none, none, some (.int s8.1), none]) ⟨Or.inl rfl, Or.inl rfl, Or.inr rfl, Or.inl rfl, trivial⟩ (hX (s8.1, m3) h))
      · refine ev_aload_n (ea_at dt_X8_takesBoth 16 rfl) rfl ?_
        refine ev_getR (ea_at dt_X8_takesBoth 17 rfl) fl_X8_14 sh_48 rfl ?_
        refine ev_clU (F1 := F_X9_step) (fun rY mY hY => ea_runV (As := []) (ea_at dt_X8_takesBoth 18 rfl) ml_X8_55 mv_X9_step (ok_X9_step G 49 m3 is_Reader_49 rY mY hY) sh_49 rfl rfl rfl (Nat.le_of_ble_eq_true rfl) (ea_okR (by omega) (by decide))) rfl (fun r6 m5 => ?_)
        refine ev_aload_n (ea_at dt_X8_takesBoth 19 rfl) rfl ?_
        refine ev_iload_n (ea_at dt_X8_takesBoth 20 rfl) rfl ?_
        refine ev_clI (F1 := (F_X8_takesAtom r0)) (fun rY mY hY => ea_runV (As := [.int p1]) (ea_at dt_X8_takesBoth 21 rfl) ml_X8_98 (mv_X8_takesAtom r0) (hA p1 m5 rY mY hY) sh_48 rfl rfl rfl (Nat.le_of_ble_eq_true rfl) (ea_okR (by omega) (by decide))) rfl (fun r8 m7 => ?_)
        refine ev_istore_n (ls' := [some (.ref 48), some (.int p1), some (.int r8), some (.int s8.2.1)]) (ea_at dt_X8_takesBoth 22 rfl) (ea_lt rfl) rfl ?_
        refine ev_aload_n (ea_at dt_X8_takesBoth 23 rfl) rfl ?_
        refine ev_getR (ea_at dt_X8_takesBoth 24 rfl) fl_X8_20 sh_48 rfl ?_
        refine ev_bipush (ea_at dt_X8_takesBoth 25 rfl) bp_m13 ?_
        refine ev_clU (F1 := F_X7_put) (fun rY mY hY => ea_runV (As := [.int (-13)]) (ea_at dt_X8_takesBoth 26 rfl) ml_X8_95 mv_X7_put (ok_X7_put G 38 (-13) m7 is_Law_38 rY mY hY) sh_38 rfl rfl rfl (Nat.le_of_ble_eq_true rfl) (ea_okR (by omega) (by decide))) rfl (fun r10 m9 => ?_)
        refine ev_iinc (ls' := [some (.ref 48), some (.int p1), some (.int r8), some (.int (s8.2.1 + 1))]) (ea_at dt_X8_takesBoth 27 rfl) rfl (congrArg (fun z => _ + z) ic_1) (ea_lt rfl) rfl ?_
        refine ev_goto (tgt := 8) (ea_at dt_X8_takesBoth 28 rfl) rfl ?_
        exact ev_leaf (fun h => ea_drop (l' := [some (.ref 48), some (.int p1), some (.int r8), some (.int (s8.2.1 + 1))]) ⟨Or.inr rfl, Or.inr rfl, Or.inr rfl, Or.inr rfl, trivial⟩ (hC (r8, s8.2.1 + 1, m9) h))
set_option maxHeartbeats 300000 in
theorem ok_X8_takesBoth (G : ea_G) (r0 : Nat) (A : Int32 → ea_M → Option (Int32 × ea_M)) (hA : ∀ (v0 : Int32) (m : ea_M) (r : Int32) (m1 : ea_M), A v0 m = some (r, m1) → ea_Met G yX8_takesAtom (F_X8_takesAtom r0) [.ref 48, .int v0] m (0, r, m1)) (p1 : Int32) (m : ea_M)  (rZ : Int32) (mZ : ea_M) (hZ : f_X8_takesBoth A p1 m = some (rZ, mZ)) : ea_Met G yX8_takesBoth (F_X8_takesBoth r0) [.ref 48, .int p1] m (0, rZ, mZ) := by
  refine ea_met (F := (F_X8_takesBoth r0)) (by decide +kernel) rfl rfl (Nat.le_of_ble_eq_true (rfl : Nat.ble _ 4 = true)) (by simp only [List.mem_cons, List.not_mem_nil, or_false]; intro v hv; rcases hv with rfl | rfl <;> rfl) ((?_ : ea_E G (F_X8_takesBoth r0) (0, rZ, mZ) 0 [some (.ref 48), some (.int p1), none, none] [] m 0 0 (f_X8_takesBoth A p1 m) (fun t => t = (rZ, mZ))) (rZ, mZ) hZ rfl)
  have hR : ∀ t : Int32 × ea_M, t = (rZ, mZ) → ((0, rZ, mZ) : ea_O) = (0, t) := fun t h => by rw [h]
  unfold f_X8_takesBoth
  refine ev_aload_n (ea_at dt_X8_takesBoth 0 rfl) rfl ?_
  refine ev_iload_n (ea_at dt_X8_takesBoth 1 rfl) rfl ?_
  refine ev_clI (F1 := (F_X8_takesAtom r0)) (fun rY mY hY => ea_runV (As := [.int p1]) (ea_at dt_X8_takesBoth 2 rfl) ml_X8_98 (mv_X8_takesAtom r0) (hA p1 m rY mY hY) sh_48 rfl rfl rfl (Nat.le_of_ble_eq_true rfl) (ea_okR (by omega) (by decide))) rfl (fun r2 m1 => ?_)
  refine ev_istore_n (ls' := [some (.ref 48), some (.int p1), some (.int r2), none]) (ea_at dt_X8_takesBoth 3 rfl) (ea_lt rfl) rfl ?_
  refine ev_iconst (ea_at dt_X8_takesBoth 4 rfl) ic_0 ?_
  refine ev_istore_n (ls' := [some (.ref 48), some (.int p1), some (.int r2), some (.int 0)]) (ea_at dt_X8_takesBoth 5 rfl) (ea_lt rfl) rfl ?_
  refine ev_drop (l' := [some (.ref 48), some (.int p1), some (.int r2), some (.int 0)]) ⟨Or.inr rfl, Or.inr rfl, Or.inr rfl, Or.inr rfl, trivial⟩ ?_
  refine ev_bind (lp_X8_takesBoth_8 G A r0 hA p1   (fun x8s h => ?_) ea_fuel (r2, 0, m1))
  obtain ⟨t1, e1, q1⟩ := h
  refine (?_ : ea_E G (F_X8_takesBoth r0) (0, rZ, mZ) 59 [none, none, some (.int x8s.1), none] [] x8s.2 0 0 _ (fun t => t = (rZ, mZ))) t1 e1 q1
  refine ev_iload_n (ea_at dt_X8_takesBoth 29 rfl) rfl ?_
  exact ev_zretG (ea_at dt_X8_takesBoth 30 rfl) rfl ⟨Nat.le_of_ble_eq_true rfl, Nat.le_of_ble_eq_true rfl⟩ (fun h => hR _ h)
def f_X8_takesNot (A : Int32 → ea_M → Option (Int32 × ea_M)) (p1 : Int32) (m : ea_M) : Option (Int32 × ea_M) :=
  ea_cl (A p1 m) fun r2 m1 =>
  if r2 = 0 then
  some (0, m1)
  else
  ea_cl (f_X7_put 38 (-12) m1) fun r4 m3 =>
  some (1, m3)
set_option maxHeartbeats 300000 in
theorem ok_X8_takesNot (G : ea_G) (r0 : Nat) (A : Int32 → ea_M → Option (Int32 × ea_M)) (hA : ∀ (v0 : Int32) (m : ea_M) (r : Int32) (m1 : ea_M), A v0 m = some (r, m1) → ea_Met G yX8_takesAtom (F_X8_takesAtom r0) [.ref 48, .int v0] m (0, r, m1)) (p1 : Int32) (m : ea_M)  (rZ : Int32) (mZ : ea_M) (hZ : f_X8_takesNot A p1 m = some (rZ, mZ)) : ea_Met G yX8_takesNot (F_X8_takesNot r0) [.ref 48, .int p1] m (0, rZ, mZ) := by
  refine ea_met (F := (F_X8_takesNot r0)) (by decide +kernel) rfl rfl (Nat.le_of_ble_eq_true (rfl : Nat.ble _ 2 = true)) (by simp only [List.mem_cons, List.not_mem_nil, or_false]; intro v hv; rcases hv with rfl | rfl <;> rfl) ((?_ : ea_E G (F_X8_takesNot r0) (0, rZ, mZ) 0 [some (.ref 48), some (.int p1)] [] m 0 0 (f_X8_takesNot A p1 m) (fun t => t = (rZ, mZ))) (rZ, mZ) hZ rfl)
  have hR : ∀ t : Int32 × ea_M, t = (rZ, mZ) → ((0, rZ, mZ) : ea_O) = (0, t) := fun t h => by rw [h]
  unfold f_X8_takesNot
  refine ev_aload_n (ea_at dt_X8_takesNot 0 rfl) rfl ?_
  refine ev_iload_n (ea_at dt_X8_takesNot 1 rfl) rfl ?_
  refine ev_clI (F1 := (F_X8_takesAtom r0)) (fun rY mY hY => ea_runV (As := [.int p1]) (ea_at dt_X8_takesNot 2 rfl) ml_X8_98 (mv_X8_takesAtom r0) (hA p1 m rY mY hY) sh_48 rfl rfl rfl (Nat.le_of_ble_eq_true rfl) (ea_okR (by omega) (by decide))) rfl (fun r2 m1 => ?_)
  refine ev_if_ne (tgt := 10) (ea_at dt_X8_takesNot 3 rfl) rfl (fun _ => ?_) (fun _ => ?_)
  · refine ev_iconst (ea_at dt_X8_takesNot 4 rfl) ic_0 ?_
    exact ev_zret (by decide) (ea_at dt_X8_takesNot 5 rfl) rfl ⟨Nat.le_of_ble_eq_true rfl, Nat.le_of_ble_eq_true rfl⟩ (fun h => hR _ h)
  · refine ev_aload_n (ea_at dt_X8_takesNot 6 rfl) rfl ?_
    refine ev_getR (ea_at dt_X8_takesNot 7 rfl) fl_X8_20 sh_48 rfl ?_
    refine ev_bipush (ea_at dt_X8_takesNot 8 rfl) bp_m12 ?_
    refine ev_clU (F1 := F_X7_put) (fun rY mY hY => ea_runV (As := [.int (-12)]) (ea_at dt_X8_takesNot 9 rfl) ml_X8_95 mv_X7_put (ok_X7_put G 38 (-12) m1 is_Law_38 rY mY hY) sh_38 rfl rfl rfl (Nat.le_of_ble_eq_true rfl) (ea_okR (by omega) (by decide))) rfl (fun r4 m3 => ?_)
    refine ev_iconst (ea_at dt_X8_takesNot 10 rfl) ic_1 ?_
    exact ev_zret (by decide) (ea_at dt_X8_takesNot 11 rfl) rfl ⟨Nat.le_of_ble_eq_true rfl, Nat.le_of_ble_eq_true rfl⟩ (fun h => hR _ h)
def f_X8_takesEither_s8 (A : Int32 → ea_M → Option (Int32 × ea_M)) (p1 : Int32)  (s8 : Int32 × Int32 × ea_M) : Option ((Int32 × Int32 × ea_M) ⊕ (Int32 × ea_M)) :=
  if 400 ≤ s8.2.1 then
  some (.inr (s8.1, s8.2.2))
  else
  if s8.1 = 0 then
  some (.inr (s8.1, s8.2.2))
  else
  ea_cl (f_X9_sees 49 33 s8.2.2) fun r4 m3 =>
  if r4 = 0 then
  some (.inr (s8.1, m3))
  else
  ea_cl (f_X9_step 49 m3) fun r6 m5 =>
  ea_cl (f_X8_takesBoth A p1 m5) fun r8 m7 =>
  ea_cl (f_X7_put 38 (-14) m7) fun r10 m9 =>
  some (.inl (r8, s8.2.1 + 1, m9))
def f_X8_takesEither (A : Int32 → ea_M → Option (Int32 × ea_M)) (p1 : Int32) (m : ea_M) : Option (Int32 × ea_M) :=
  ea_cl (f_X8_takesBoth A p1 m) fun r2 m1 =>
  (ea_loop (f_X8_takesEither_s8 A p1) ea_fuel (r2, 0, m1)).bind (fun x8s =>
  ea_gz x8s.1 (some (x8s.1, x8s.2)))
set_option maxHeartbeats 300000 in
theorem lp_X8_takesEither_8 (G : ea_G) {res : ea_O} (A : Int32 → ea_M → Option (Int32 × ea_M)) (r0 : Nat) (hA : ∀ (v0 : Int32) (m : ea_M) (r : Int32) (m1 : ea_M), A v0 m = some (r, m1) → ea_Met G yX8_takesAtom (F_X8_takesAtom r0) [.ref 48, .int v0] m (0, r, m1))  (p1 : Int32)  {Ψ : (Int32 × ea_M) → Prop} (hX : ∀ x8s : Int32 × ea_M, Ψ x8s → ea_Ev G (F_X8_takesEither r0) res 59 [none, none, some (.int x8s.1), none] [] x8s.2 0 0) : ∀ (f : Nat) (s8 : Int32 × Int32 × ea_M), ea_E G (F_X8_takesEither r0) res 8 [some (.ref 48), some (.int p1), some (.int s8.1), some (.int s8.2.1)] [] s8.2.2 0 0 (ea_loop (f_X8_takesEither_s8 A p1) f s8) Ψ := by
  refine ev_loop (G := G) (F := (F_X8_takesEither r0)) (res := res) (pc := 8) (st := []) (k := 0) (n := 0) (step := (f_X8_takesEither_s8 A p1)) (Ψ := Ψ) (fun (s8 : Int32 × Int32 × ea_M) => [some (.ref 48), some (.int p1), some (.int s8.1), some (.int s8.2.1)]) (fun (s8 : Int32 × Int32 × ea_M) => s8.2.2) (fun s8 => ?_)
  have hC : ∀ s8 : Int32 × Int32 × ea_M, (Sum.elim (fun s8 : Int32 × Int32 × ea_M => ea_Ev G (F_X8_takesEither r0) res 8 [some (.ref 48), some (.int p1), some (.int s8.1), some (.int s8.2.1)] [] s8.2.2 0 0) Ψ) (.inl s8) → ea_Ev G (F_X8_takesEither r0) res 8 [some (.ref 48), some (.int p1), some (.int s8.1), some (.int s8.2.1)] [] s8.2.2 0 0 := fun _ h => h
  have hX : ∀ x8s : Int32 × ea_M, (Sum.elim (fun s8 : Int32 × Int32 × ea_M => ea_Ev G (F_X8_takesEither r0) res 8 [some (.ref 48), some (.int p1), some (.int s8.1), some (.int s8.2.1)] [] s8.2.2 0 0) Ψ) (.inr x8s) → ea_Ev G (F_X8_takesEither r0) res 59 [none, none, some (.int x8s.1), none] [] x8s.2 0 0 := hX
  unfold f_X8_takesEither_s8
  refine ev_iload_n (ea_at dt_X8_takesEither 6 rfl) rfl ?_
  refine ev_sipush (ea_at dt_X8_takesEither 7 rfl) sp_400 ?_
  refine ev_icmp_ge (tgt := 59) (ea_at dt_X8_takesEither 8 rfl) rfl (fun _ => ?_) (fun _ => ?_)
  · exact ev_leaf (fun h => ea_drop (l' := [none, none, some (.int s8.1), none]) ⟨Or.inl rfl, Or.inl rfl, Or.inr rfl, Or.inl rfl, trivial⟩ (hX (s8.1, s8.2.2) h))
  · refine ev_iload_n (ea_at dt_X8_takesEither 9 rfl) rfl ?_
    refine ev_if_eq (tgt := 59) (ea_at dt_X8_takesEither 10 rfl) rfl (fun _ => ?_) (fun _ => ?_)
    · exact ev_leaf (fun h => ea_drop (l' := [none, none, some (.int s8.1), none]) ⟨Or.inl rfl, Or.inl rfl, Or.inr rfl, Or.inl rfl, trivial⟩ (hX (s8.1, s8.2.2) h))
    · refine ev_aload_n (ea_at dt_X8_takesEither 11 rfl) rfl ?_
      refine ev_getR (ea_at dt_X8_takesEither 12 rfl) fl_X8_14 sh_48 rfl ?_
      refine ev_ldcS (j := 33) (ea_at dt_X8_takesEither 13 rfl) rfl ?_
      refine ev_clI (F1 := F_X9_sees) (fun rY mY hY => ea_runV (As := [.ref (1000 + 33)]) (ea_at dt_X8_takesEither 14 rfl) ml_X8_71 mv_X9_sees (ok_X9_sees G 49 33 s8.2.2 is_Reader_49 (by decide) rY mY hY) sh_49 rfl rfl rfl (Nat.le_of_ble_eq_true rfl) (ea_okR (by omega) (by decide))) rfl (fun r4 m3 => ?_)
      refine ev_if_eq (tgt := 59) (ea_at dt_X8_takesEither 15 rfl) rfl (fun _ => ?_) (fun _ => ?_)
      · exact ev_leaf (fun h => ea_drop (l' := [none, none, some (.int s8.1), none]) ⟨Or.inl rfl, Or.inl rfl, Or.inr rfl, Or.inl rfl, trivial⟩ (hX (s8.1, m3) h))
      · refine ev_aload_n (ea_at dt_X8_takesEither 16 rfl) rfl ?_
        refine ev_getR (ea_at dt_X8_takesEither 17 rfl) fl_X8_14 sh_48 rfl ?_
        refine ev_clU (F1 := F_X9_step) (fun rY mY hY => ea_runV (As := []) (ea_at dt_X8_takesEither 18 rfl) ml_X8_55 mv_X9_step (ok_X9_step G 49 m3 is_Reader_49 rY mY hY) sh_49 rfl rfl rfl (Nat.le_of_ble_eq_true rfl) (ea_okR (by omega) (by decide))) rfl (fun r6 m5 => ?_)
        refine ev_aload_n (ea_at dt_X8_takesEither 19 rfl) rfl ?_
        refine ev_iload_n (ea_at dt_X8_takesEither 20 rfl) rfl ?_
        refine ev_clI (F1 := (F_X8_takesBoth r0)) (fun rY mY hY => ea_runV (As := [.int p1]) (ea_at dt_X8_takesEither 21 rfl) ml_X8_90 (mv_X8_takesBoth r0) (ok_X8_takesBoth G r0 A hA p1 m5  rY mY hY) sh_48 rfl rfl rfl (Nat.le_of_ble_eq_true rfl) (ea_okR (by omega) (by decide))) rfl (fun r8 m7 => ?_)
        refine ev_istore_n (ls' := [some (.ref 48), some (.int p1), some (.int r8), some (.int s8.2.1)]) (ea_at dt_X8_takesEither 22 rfl) (ea_lt rfl) rfl ?_
        refine ev_aload_n (ea_at dt_X8_takesEither 23 rfl) rfl ?_
        refine ev_getR (ea_at dt_X8_takesEither 24 rfl) fl_X8_20 sh_48 rfl ?_
        refine ev_bipush (ea_at dt_X8_takesEither 25 rfl) bp_m14 ?_
        refine ev_clU (F1 := F_X7_put) (fun rY mY hY => ea_runV (As := [.int (-14)]) (ea_at dt_X8_takesEither 26 rfl) ml_X8_95 mv_X7_put (ok_X7_put G 38 (-14) m7 is_Law_38 rY mY hY) sh_38 rfl rfl rfl (Nat.le_of_ble_eq_true rfl) (ea_okR (by omega) (by decide))) rfl (fun r10 m9 => ?_)
        refine ev_iinc (ls' := [some (.ref 48), some (.int p1), some (.int r8), some (.int (s8.2.1 + 1))]) (ea_at dt_X8_takesEither 27 rfl) rfl (congrArg (fun z => _ + z) ic_1) (ea_lt rfl) rfl ?_
        refine ev_goto (tgt := 8) (ea_at dt_X8_takesEither 28 rfl) rfl ?_
        exact ev_leaf (fun h => ea_drop (l' := [some (.ref 48), some (.int p1), some (.int r8), some (.int (s8.2.1 + 1))]) ⟨Or.inr rfl, Or.inr rfl, Or.inr rfl, Or.inr rfl, trivial⟩ (hC (r8, s8.2.1 + 1, m9) h))
set_option maxHeartbeats 300000 in
theorem ok_X8_takesEither (G : ea_G) (r0 : Nat) (A : Int32 → ea_M → Option (Int32 × ea_M)) (hA : ∀ (v0 : Int32) (m : ea_M) (r : Int32) (m1 : ea_M), A v0 m = some (r, m1) → ea_Met G yX8_takesAtom (F_X8_takesAtom r0) [.ref 48, .int v0] m (0, r, m1)) (p1 : Int32) (m : ea_M)  (rZ : Int32) (mZ : ea_M) (hZ : f_X8_takesEither A p1 m = some (rZ, mZ)) : ea_Met G yX8_takesEither (F_X8_takesEither r0) [.ref 48, .int p1] m (0, rZ, mZ) := by
  refine ea_met (F := (F_X8_takesEither r0)) (by decide +kernel) rfl rfl (Nat.le_of_ble_eq_true (rfl : Nat.ble _ 4 = true)) (by simp only [List.mem_cons, List.not_mem_nil, or_false]; intro v hv; rcases hv with rfl | rfl <;> rfl) ((?_ : ea_E G (F_X8_takesEither r0) (0, rZ, mZ) 0 [some (.ref 48), some (.int p1), none, none] [] m 0 0 (f_X8_takesEither A p1 m) (fun t => t = (rZ, mZ))) (rZ, mZ) hZ rfl)
  have hR : ∀ t : Int32 × ea_M, t = (rZ, mZ) → ((0, rZ, mZ) : ea_O) = (0, t) := fun t h => by rw [h]
  unfold f_X8_takesEither
  refine ev_aload_n (ea_at dt_X8_takesEither 0 rfl) rfl ?_
  refine ev_iload_n (ea_at dt_X8_takesEither 1 rfl) rfl ?_
  refine ev_clI (F1 := (F_X8_takesBoth r0)) (fun rY mY hY => ea_runV (As := [.int p1]) (ea_at dt_X8_takesEither 2 rfl) ml_X8_90 (mv_X8_takesBoth r0) (ok_X8_takesBoth G r0 A hA p1 m  rY mY hY) sh_48 rfl rfl rfl (Nat.le_of_ble_eq_true rfl) (ea_okR (by omega) (by decide))) rfl (fun r2 m1 => ?_)
  refine ev_istore_n (ls' := [some (.ref 48), some (.int p1), some (.int r2), none]) (ea_at dt_X8_takesEither 3 rfl) (ea_lt rfl) rfl ?_
  refine ev_iconst (ea_at dt_X8_takesEither 4 rfl) ic_0 ?_
  refine ev_istore_n (ls' := [some (.ref 48), some (.int p1), some (.int r2), some (.int 0)]) (ea_at dt_X8_takesEither 5 rfl) (ea_lt rfl) rfl ?_
  refine ev_drop (l' := [some (.ref 48), some (.int p1), some (.int r2), some (.int 0)]) ⟨Or.inr rfl, Or.inr rfl, Or.inr rfl, Or.inr rfl, trivial⟩ ?_
  refine ev_bind (lp_X8_takesEither_8 G A r0 hA p1   (fun x8s h => ?_) ea_fuel (r2, 0, m1))
  obtain ⟨t1, e1, q1⟩ := h
  refine (?_ : ea_E G (F_X8_takesEither r0) (0, rZ, mZ) 59 [none, none, some (.int x8s.1), none] [] x8s.2 0 0 _ (fun t => t = (rZ, mZ))) t1 e1 q1
  refine ev_iload_n (ea_at dt_X8_takesEither 29 rfl) rfl ?_
  exact ev_zretG (ea_at dt_X8_takesEither 30 rfl) rfl ⟨Nat.le_of_ble_eq_true rfl, Nat.le_of_ble_eq_true rfl⟩ (fun h => hR _ h)
def f_X8_takesAtom_j212 (A : Int32 → ea_M → Option (Int32 × ea_M)) (x20 : Int32) (m21 : ea_M) : Option (Int32 × ea_M) :=
  ea_cl (f_X7_put 38 x20 m21) fun r23 m22 =>
  some (1, m22)
def f_X8_takesAtom_j182 (A : Int32 → ea_M → Option (Int32 × ea_M)) (x13 : Int32) (x14 : Int32) (m15 : ea_M) : Option (Int32 × ea_M) :=
  ea_cl (f_X9_takesSign 49 x14 m15) fun r17 m16 =>
  if r17 = 0 then
  some (0, m16)
  else
  ea_cl (f_X8_takesSum m16) fun r19 m18 =>
  if r19 = 0 then
  some (0, m18)
  else
  if x13 = 0 then
  f_X8_takesAtom_j212 A (-11) m18
  else
  f_X8_takesAtom_j212 A (-10) m18
def f_X8_takesAtom_j136 (A : Int32 → ea_M → Option (Int32 × ea_M)) (x27 : Int32) (m28 : ea_M) : Option (Int32 × ea_M) :=
  ea_cl (f_X7_putFact 38 x27 m28) fun r30 m29 =>
  ea_cl (f_X9_step 49 m29) fun r32 m31 =>
  some (1, m31)
def f_X8_takesAtom_j113 (A : Int32 → ea_M → Option (Int32 × ea_M)) (m24 : ea_M) : Option (Int32 × ea_M) :=
  ea_cl (f_X9_sees 49 24 m24) fun r26 m25 =>
  if r26 = 0 then
  f_X8_takesAtom_j136 A 7 m25
  else
  f_X8_takesAtom_j136 A 6 m25
def f_X8_takesAtom_j26 (A : Int32 → ea_M → Option (Int32 × ea_M)) (p1 : Int32) (x33 : Int32) (m34 : ea_M) : Option (Int32 × ea_M) :=
  if p1 < 6 then
  ea_cl (f_X9_step 49 m34) fun r36 m35 =>
  if x33 = 0 then
  ea_cl (f_X8_takesEither A (p1 + 1) m35) fun r38 m37 =>
  if r38 = 0 then
  some (0, m37)
  else
  ea_cl (f_X9_takesSign 49 41 m37) fun r40 m39 =>
  if r40 = 0 then
  some (0, m39)
  else
  some (1, m39)
  else
  ea_cl (f_X8_takesNot A (p1 + 1) m35) fun r42 m41 =>
  ea_gz r42 (some (r42, m41))
  else
  ea_cl (f_X9_refuse 49 m34) fun r44 m43 =>
  ea_gz r44 (some (r44, m43))
def g_X8_takesAtom (A : Int32 → ea_M → Option (Int32 × ea_M)) (p1 : Int32) (m : ea_M) : Option (Int32 × ea_M) :=
  ea_cl (f_X9_sees 49 23 m) fun r2 m1 =>
  if r2 = 0 then
  ea_cl (f_X9_seesSign 49 40 m1) fun r4 m3 =>
  if r4 = 0 then
  ea_cl (f_X9_sees 49 24 m3) fun r6 m5 =>
  if r6 = 0 then
  ea_cl (f_X9_sees 49 25 m5) fun r8 m7 =>
  if r8 = 0 then
  ea_cl (f_X8_takesSum m7) fun r10 m9 =>
  if r10 = 0 then
  some (0, m9)
  else
  ea_cl (f_X9_seesSign 49 60 m9) fun r12 m11 =>
  if r12 = 0 then
  f_X8_takesAtom_j182 A r12 62 m11
  else
  f_X8_takesAtom_j182 A r12 60 m11
  else
  f_X8_takesAtom_j113 A m7
  else
  f_X8_takesAtom_j113 A m5
  else
  f_X8_takesAtom_j26 A p1 r2 m3
  else
  f_X8_takesAtom_j26 A p1 r2 m1
set_option maxHeartbeats 300000 in
theorem jn_X8_takesAtom_212 (G : ea_G) {res : ea_O} (A : Int32 → ea_M → Option (Int32 × ea_M)) (r0 : Nat) (hA : ∀ (v0 : Int32) (m : ea_M) (r : Int32) (m1 : ea_M), A v0 m = some (r, m1) → ea_Met G yX8_takesAtom (F_X8_takesAtom r0) [.ref 48, .int v0] m (0, r, m1))  (x20 : Int32) (m21 : ea_M)  {Φ : (Int32 × ea_M) → Prop} (hR : ∀ t : Int32 × ea_M, Φ t → res = (0, t)) : ea_E G (F_X8_takesAtom (r0 + 1)) res 212 [none, none, none, none] [.int x20, .ref 38] m21 0 0 (f_X8_takesAtom_j212 A x20 m21) Φ := by
  unfold f_X8_takesAtom_j212
  refine ev_clU (F1 := F_X7_put) (fun rY mY hY => ea_runV (As := [.int x20]) (ea_at dt_X8_takesAtom 102 rfl) ml_X8_95 mv_X7_put (ok_X7_put G 38 x20 m21 is_Law_38 rY mY hY) sh_38 rfl rfl rfl (Nat.le_of_ble_eq_true rfl) (ea_okR (by omega) (by decide))) rfl (fun r23 m22 => ?_)
  refine ev_iconst (ea_at dt_X8_takesAtom 103 rfl) ic_1 ?_
  exact ev_zret (by decide) (ea_at dt_X8_takesAtom 104 rfl) rfl ⟨Nat.le_of_ble_eq_true rfl, Nat.le_of_ble_eq_true rfl⟩ (fun h => hR _ h)
set_option maxHeartbeats 300000 in
theorem jn_X8_takesAtom_182 (G : ea_G) {res : ea_O} (A : Int32 → ea_M → Option (Int32 × ea_M)) (r0 : Nat) (hA : ∀ (v0 : Int32) (m : ea_M) (r : Int32) (m1 : ea_M), A v0 m = some (r, m1) → ea_Met G yX8_takesAtom (F_X8_takesAtom r0) [.ref 48, .int v0] m (0, r, m1))  (x13 : Int32) (x14 : Int32) (m15 : ea_M)  {Φ : (Int32 × ea_M) → Prop} (hR : ∀ t : Int32 × ea_M, Φ t → res = (0, t)) : ea_E G (F_X8_takesAtom (r0 + 1)) res 182 [some (.ref 48), none, none, some (.int x13)] [.int x14, .ref 49] m15 0 0 (f_X8_takesAtom_j182 A x13 x14 m15) Φ := by
  unfold f_X8_takesAtom_j182
  refine ev_clI (F1 := F_X9_takesSign) (fun rY mY hY => ea_runV (As := [.int x14]) (ea_at dt_X8_takesAtom 88 rfl) ml_X8_44 mv_X9_takesSign (ok_X9_takesSign G 49 x14 m15 is_Reader_49 rY mY hY) sh_49 rfl rfl rfl (Nat.le_of_ble_eq_true rfl) (ea_okR (by omega) (by decide))) rfl (fun r17 m16 => ?_)
  refine ev_if_eq (tgt := 195) (ea_at dt_X8_takesAtom 89 rfl) rfl (fun _ => ?_) (fun _ => ?_)
  · refine ev_iconst (ea_at dt_X8_takesAtom 93 rfl) ic_0 ?_
    exact ev_zret (by decide) (ea_at dt_X8_takesAtom 94 rfl) rfl ⟨Nat.le_of_ble_eq_true rfl, Nat.le_of_ble_eq_true rfl⟩ (fun h => hR _ h)
  · refine ev_aload_n (ea_at dt_X8_takesAtom 90 rfl) rfl ?_
    refine ev_clI (F1 := F_X8_takesSum) (fun rY mY hY => ea_runV (As := []) (ea_at dt_X8_takesAtom 91 rfl) ml_X8_118 mv_X8_takesSum (ok_X8_takesSum G m16  rY mY hY) sh_48 rfl rfl rfl (Nat.le_of_ble_eq_true rfl) (ea_okR (by omega) (by decide))) rfl (fun r19 m18 => ?_)
    refine ev_if_ne (tgt := 197) (ea_at dt_X8_takesAtom 92 rfl) rfl (fun _ => ?_) (fun _ => ?_)
    · refine ev_iconst (ea_at dt_X8_takesAtom 93 rfl) ic_0 ?_
      exact ev_zret (by decide) (ea_at dt_X8_takesAtom 94 rfl) rfl ⟨Nat.le_of_ble_eq_true rfl, Nat.le_of_ble_eq_true rfl⟩ (fun h => hR _ h)
    · refine ev_aload_n (ea_at dt_X8_takesAtom 95 rfl) rfl ?_
      refine ev_getR (ea_at dt_X8_takesAtom 96 rfl) fl_X8_20 sh_48 rfl ?_
      refine ev_iload_n (ea_at dt_X8_takesAtom 97 rfl) rfl ?_
      refine ev_if_eq (tgt := 210) (ea_at dt_X8_takesAtom 98 rfl) rfl (fun _ => ?_) (fun _ => ?_)
      · refine ev_bipush (ea_at dt_X8_takesAtom 101 rfl) bp_m11 ?_
        exact ev_drop (l' := [none, none, none, none]) ⟨Or.inl rfl, Or.inl rfl, Or.inl rfl, Or.inl rfl, trivial⟩ (jn_X8_takesAtom_212 G A r0 hA (-11) m18  hR)
      · refine ev_bipush (ea_at dt_X8_takesAtom 99 rfl) bp_m10 ?_
        refine ev_goto (tgt := 212) (ea_at dt_X8_takesAtom 100 rfl) rfl ?_
        exact ev_drop (l' := [none, none, none, none]) ⟨Or.inl rfl, Or.inl rfl, Or.inl rfl, Or.inl rfl, trivial⟩ (jn_X8_takesAtom_212 G A r0 hA (-10) m18  hR)
set_option maxHeartbeats 300000 in
theorem jn_X8_takesAtom_136 (G : ea_G) {res : ea_O} (A : Int32 → ea_M → Option (Int32 × ea_M)) (r0 : Nat) (hA : ∀ (v0 : Int32) (m : ea_M) (r : Int32) (m1 : ea_M), A v0 m = some (r, m1) → ea_Met G yX8_takesAtom (F_X8_takesAtom r0) [.ref 48, .int v0] m (0, r, m1))  (x27 : Int32) (m28 : ea_M)  {Φ : (Int32 × ea_M) → Prop} (hR : ∀ t : Int32 × ea_M, Φ t → res = (0, t)) : ea_E G (F_X8_takesAtom (r0 + 1)) res 136 [some (.ref 48), none, none, none] [.int x27, .ref 38] m28 0 0 (f_X8_takesAtom_j136 A x27 m28) Φ := by
  unfold f_X8_takesAtom_j136
  refine ev_clU (F1 := F_X7_putFact) (fun rY mY hY => ea_runV (As := [.int x27]) (ea_at dt_X8_takesAtom 65 rfl) ml_X8_115 mv_X7_putFact (ok_X7_putFact G 38 x27 m28 is_Law_38 rY mY hY) sh_38 rfl rfl rfl (Nat.le_of_ble_eq_true rfl) (ea_okR (by omega) (by decide))) rfl (fun r30 m29 => ?_)
  refine ev_aload_n (ea_at dt_X8_takesAtom 66 rfl) rfl ?_
  refine ev_getR (ea_at dt_X8_takesAtom 67 rfl) fl_X8_14 sh_48 rfl ?_
  refine ev_clU (F1 := F_X9_step) (fun rY mY hY => ea_runV (As := []) (ea_at dt_X8_takesAtom 68 rfl) ml_X8_55 mv_X9_step (ok_X9_step G 49 m29 is_Reader_49 rY mY hY) sh_49 rfl rfl rfl (Nat.le_of_ble_eq_true rfl) (ea_okR (by omega) (by decide))) rfl (fun r32 m31 => ?_)
  refine ev_iconst (ea_at dt_X8_takesAtom 69 rfl) ic_1 ?_
  exact ev_zret (by decide) (ea_at dt_X8_takesAtom 70 rfl) rfl ⟨Nat.le_of_ble_eq_true rfl, Nat.le_of_ble_eq_true rfl⟩ (fun h => hR _ h)
set_option maxHeartbeats 300000 in
theorem jn_X8_takesAtom_113 (G : ea_G) {res : ea_O} (A : Int32 → ea_M → Option (Int32 × ea_M)) (r0 : Nat) (hA : ∀ (v0 : Int32) (m : ea_M) (r : Int32) (m1 : ea_M), A v0 m = some (r, m1) → ea_Met G yX8_takesAtom (F_X8_takesAtom r0) [.ref 48, .int v0] m (0, r, m1))  (m24 : ea_M)  {Φ : (Int32 × ea_M) → Prop} (hR : ∀ t : Int32 × ea_M, Φ t → res = (0, t)) : ea_E G (F_X8_takesAtom (r0 + 1)) res 113 [some (.ref 48), none, none, none] [] m24 0 0 (f_X8_takesAtom_j113 A m24) Φ := by
  unfold f_X8_takesAtom_j113
  refine ev_aload_n (ea_at dt_X8_takesAtom 55 rfl) rfl ?_
  refine ev_getR (ea_at dt_X8_takesAtom 56 rfl) fl_X8_20 sh_48 rfl ?_
  refine ev_aload_n (ea_at dt_X8_takesAtom 57 rfl) rfl ?_
  refine ev_getR (ea_at dt_X8_takesAtom 58 rfl) fl_X8_14 sh_48 rfl ?_
  refine ev_ldcS (j := 24) (ea_at dt_X8_takesAtom 59 rfl) rfl ?_
  refine ev_clI (F1 := F_X9_sees) (fun rY mY hY => ea_runV (As := [.ref (1000 + 24)]) (ea_at dt_X8_takesAtom 60 rfl) ml_X8_71 mv_X9_sees (ok_X9_sees G 49 24 m24 is_Reader_49 (by decide) rY mY hY) sh_49 rfl rfl rfl (Nat.le_of_ble_eq_true rfl) (ea_okR (by omega) (by decide))) rfl (fun r26 m25 => ?_)
  refine ev_if_eq (tgt := 134) (ea_at dt_X8_takesAtom 61 rfl) rfl (fun _ => ?_) (fun _ => ?_)
  · refine ev_bipush (ea_at dt_X8_takesAtom 64 rfl) bp_7 ?_
    exact ev_drop (l' := [some (.ref 48), none, none, none]) ⟨Or.inr rfl, Or.inl rfl, Or.inl rfl, Or.inl rfl, trivial⟩ (jn_X8_takesAtom_136 G A r0 hA 7 m25  hR)
  · refine ev_bipush (ea_at dt_X8_takesAtom 62 rfl) bp_6 ?_
    refine ev_goto (tgt := 136) (ea_at dt_X8_takesAtom 63 rfl) rfl ?_
    exact ev_drop (l' := [some (.ref 48), none, none, none]) ⟨Or.inr rfl, Or.inl rfl, Or.inl rfl, Or.inl rfl, trivial⟩ (jn_X8_takesAtom_136 G A r0 hA 6 m25  hR)
set_option maxHeartbeats 300000 in
theorem jn_X8_takesAtom_26 (G : ea_G) {res : ea_O} (A : Int32 → ea_M → Option (Int32 × ea_M)) (r0 : Nat) (hA : ∀ (v0 : Int32) (m : ea_M) (r : Int32) (m1 : ea_M), A v0 m = some (r, m1) → ea_Met G yX8_takesAtom (F_X8_takesAtom r0) [.ref 48, .int v0] m (0, r, m1))  (p1 : Int32) (x33 : Int32) (m34 : ea_M)  {Φ : (Int32 × ea_M) → Prop} (hR : ∀ t : Int32 × ea_M, Φ t → res = (0, t)) : ea_E G (F_X8_takesAtom (r0 + 1)) res 26 [some (.ref 48), some (.int p1), some (.int x33), none] [] m34 0 0 (f_X8_takesAtom_j26 A p1 x33 m34) Φ := by
  unfold f_X8_takesAtom_j26
  refine ev_iload_n (ea_at dt_X8_takesAtom 12 rfl) rfl ?_
  refine ev_bipush (ea_at dt_X8_takesAtom 13 rfl) bp_6 ?_
  refine ev_icmp_lt (tgt := 40) (ea_at dt_X8_takesAtom 14 rfl) rfl (fun _ => ?_) (fun _ => ?_)
  · refine ev_aload_n (ea_at dt_X8_takesAtom 19 rfl) rfl ?_
    refine ev_getR (ea_at dt_X8_takesAtom 20 rfl) fl_X8_14 sh_48 rfl ?_
    refine ev_clU (F1 := F_X9_step) (fun rY mY hY => ea_runV (As := []) (ea_at dt_X8_takesAtom 21 rfl) ml_X8_55 mv_X9_step (ok_X9_step G 49 m34 is_Reader_49 rY mY hY) sh_49 rfl rfl rfl (Nat.le_of_ble_eq_true rfl) (ea_okR (by omega) (by decide))) rfl (fun r36 m35 => ?_)
    refine ev_iload_n (ea_at dt_X8_takesAtom 22 rfl) rfl ?_
    refine ev_if_eq (tgt := 61) (ea_at dt_X8_takesAtom 23 rfl) rfl (fun _ => ?_) (fun _ => ?_)
    · refine ev_aload_n (ea_at dt_X8_takesAtom 30 rfl) rfl ?_
      refine ev_iload_n (ea_at dt_X8_takesAtom 31 rfl) rfl ?_
      refine ev_iconst (ea_at dt_X8_takesAtom 32 rfl) ic_1 ?_
      refine ev_iadd (ea_at dt_X8_takesAtom 33 rfl) ?_
      refine ev_clI (F1 := (F_X8_takesEither r0)) (fun rY mY hY => ea_runV (As := [.int (p1 + 1)]) (ea_at dt_X8_takesAtom 34 rfl) ml_X8_75 (mv_X8_takesEither r0) (ok_X8_takesEither G r0 A hA (p1 + 1) m35  rY mY hY) sh_48 rfl rfl rfl (Nat.le_of_ble_eq_true rfl) (ea_okR (by omega) (by decide))) rfl (fun r38 m37 => ?_)
      refine ev_if_eq (tgt := 87) (ea_at dt_X8_takesAtom 35 rfl) rfl (fun _ => ?_) (fun _ => ?_)
      · refine ev_iconst (ea_at dt_X8_takesAtom 43 rfl) ic_0 ?_
        exact ev_zret (by decide) (ea_at dt_X8_takesAtom 44 rfl) rfl ⟨Nat.le_of_ble_eq_true rfl, Nat.le_of_ble_eq_true rfl⟩ (fun h => hR _ h)
      · refine ev_aload_n (ea_at dt_X8_takesAtom 36 rfl) rfl ?_
        refine ev_getR (ea_at dt_X8_takesAtom 37 rfl) fl_X8_14 sh_48 rfl ?_
        refine ev_bipush (ea_at dt_X8_takesAtom 38 rfl) bp_41 ?_
        refine ev_clI (F1 := F_X9_takesSign) (fun rY mY hY => ea_runV (As := [.int 41]) (ea_at dt_X8_takesAtom 39 rfl) ml_X8_44 mv_X9_takesSign (ok_X9_takesSign G 49 41 m37 is_Reader_49 rY mY hY) sh_49 rfl rfl rfl (Nat.le_of_ble_eq_true rfl) (ea_okR (by omega) (by decide))) rfl (fun r40 m39 => ?_)
        refine ev_if_eq (tgt := 87) (ea_at dt_X8_takesAtom 40 rfl) rfl (fun _ => ?_) (fun _ => ?_)
        · refine ev_iconst (ea_at dt_X8_takesAtom 43 rfl) ic_0 ?_
          exact ev_zret (by decide) (ea_at dt_X8_takesAtom 44 rfl) rfl ⟨Nat.le_of_ble_eq_true rfl, Nat.le_of_ble_eq_true rfl⟩ (fun h => hR _ h)
        · refine ev_iconst (ea_at dt_X8_takesAtom 41 rfl) ic_1 ?_
          refine ev_goto (tgt := 88) (ea_at dt_X8_takesAtom 42 rfl) rfl ?_
          exact ev_zret (by decide) (ea_at dt_X8_takesAtom 44 rfl) rfl ⟨Nat.le_of_ble_eq_true rfl, Nat.le_of_ble_eq_true rfl⟩ (fun h => hR _ h)
    · refine ev_aload_n (ea_at dt_X8_takesAtom 24 rfl) rfl ?_
      refine ev_iload_n (ea_at dt_X8_takesAtom 25 rfl) rfl ?_
      refine ev_iconst (ea_at dt_X8_takesAtom 26 rfl) ic_1 ?_
      refine ev_iadd (ea_at dt_X8_takesAtom 27 rfl) ?_
      refine ev_clI (F1 := (F_X8_takesNot r0)) (fun rY mY hY => ea_runV (As := [.int (p1 + 1)]) (ea_at dt_X8_takesAtom 28 rfl) ml_X8_108 (mv_X8_takesNot r0) (ok_X8_takesNot G r0 A hA (p1 + 1) m35  rY mY hY) sh_48 rfl rfl rfl (Nat.le_of_ble_eq_true rfl) (ea_okR (by omega) (by decide))) rfl (fun r42 m41 => ?_)
      refine ev_goto (tgt := 88) (ea_at dt_X8_takesAtom 29 rfl) rfl ?_
      exact ev_zretG (ea_at dt_X8_takesAtom 44 rfl) rfl ⟨Nat.le_of_ble_eq_true rfl, Nat.le_of_ble_eq_true rfl⟩ (fun h => hR _ h)
  · refine ev_aload_n (ea_at dt_X8_takesAtom 15 rfl) rfl ?_
    refine ev_getR (ea_at dt_X8_takesAtom 16 rfl) fl_X8_14 sh_48 rfl ?_
    refine ev_clI (F1 := F_X9_refuse) (fun rY mY hY => ea_runV (As := []) (ea_at dt_X8_takesAtom 17 rfl) ml_X8_41 mv_X9_refuse (ok_X9_refuse G 49 m34 is_Reader_49 rY mY hY) sh_49 rfl rfl rfl (Nat.le_of_ble_eq_true rfl) (ea_okR (by omega) (by decide))) rfl (fun r44 m43 => ?_)
    exact ev_zretG (ea_at dt_X8_takesAtom 18 rfl) rfl ⟨Nat.le_of_ble_eq_true rfl, Nat.le_of_ble_eq_true rfl⟩ (fun h => hR _ h)
set_option maxHeartbeats 300000 in
theorem gk_X8_takesAtom (G : ea_G) (A : Int32 → ea_M → Option (Int32 × ea_M)) (r0 : Nat) (hA : ∀ (v0 : Int32) (m : ea_M) (r : Int32) (m1 : ea_M), A v0 m = some (r, m1) → ea_Met G yX8_takesAtom (F_X8_takesAtom r0) [.ref 48, .int v0] m (0, r, m1)) (p1 : Int32) (m : ea_M)  (rZ : Int32) (mZ : ea_M) (hZ : g_X8_takesAtom A p1 m = some (rZ, mZ)) : ea_Met G yX8_takesAtom (F_X8_takesAtom (r0 + 1)) [.ref 48, .int p1] m (0, rZ, mZ) := by
  refine ea_met (F := (F_X8_takesAtom (r0 + 1))) (by decide +kernel) rfl rfl (Nat.le_of_ble_eq_true (rfl : Nat.ble _ 4 = true)) (by simp only [List.mem_cons, List.not_mem_nil, or_false]; intro v hv; rcases hv with rfl | rfl <;> rfl) ((?_ : ea_E G (F_X8_takesAtom (r0 + 1)) (0, rZ, mZ) 0 [some (.ref 48), some (.int p1), none, none] [] m 0 0 (g_X8_takesAtom A p1 m) (fun t => t = (rZ, mZ))) (rZ, mZ) hZ rfl)
  have hR : ∀ t : Int32 × ea_M, t = (rZ, mZ) → ((0, rZ, mZ) : ea_O) = (0, t) := fun t h => by rw [h]
  unfold g_X8_takesAtom
  refine ev_aload_n (ea_at dt_X8_takesAtom 0 rfl) rfl ?_
  refine ev_getR (ea_at dt_X8_takesAtom 1 rfl) fl_X8_14 sh_48 rfl ?_
  refine ev_ldcS (j := 23) (ea_at dt_X8_takesAtom 2 rfl) rfl ?_
  refine ev_clI (F1 := F_X9_sees) (fun rY mY hY => ea_runV (As := [.ref (1000 + 23)]) (ea_at dt_X8_takesAtom 3 rfl) ml_X8_71 mv_X9_sees (ok_X9_sees G 49 23 m is_Reader_49 (by decide) rY mY hY) sh_49 rfl rfl rfl (Nat.le_of_ble_eq_true rfl) (ea_okR (by omega) (by decide))) rfl (fun r2 m1 => ?_)
  refine ev_istore_n (ls' := [some (.ref 48), some (.int p1), some (.int r2), none]) (ea_at dt_X8_takesAtom 4 rfl) (ea_lt rfl) rfl ?_
  refine ev_iload_n (ea_at dt_X8_takesAtom 5 rfl) rfl ?_
  refine ev_if_ne (tgt := 26) (ea_at dt_X8_takesAtom 6 rfl) rfl (fun _ => ?_) (fun _ => ?_)
  · refine ev_aload_n (ea_at dt_X8_takesAtom 7 rfl) rfl ?_
    refine ev_getR (ea_at dt_X8_takesAtom 8 rfl) fl_X8_14 sh_48 rfl ?_
    refine ev_bipush (ea_at dt_X8_takesAtom 9 rfl) bp_40 ?_
    refine ev_clI (F1 := F_X9_seesSign) (fun rY mY hY => ea_runV (As := [.int 40]) (ea_at dt_X8_takesAtom 10 rfl) ml_X8_105 mv_X9_seesSign (ok_X9_seesSign G 49 40 m1 is_Reader_49 rY mY hY) sh_49 rfl rfl rfl (Nat.le_of_ble_eq_true rfl) (ea_okR (by omega) (by decide))) rfl (fun r4 m3 => ?_)
    refine ev_if_eq (tgt := 89) (ea_at dt_X8_takesAtom 11 rfl) rfl (fun _ => ?_) (fun _ => ?_)
    · refine ev_aload_n (ea_at dt_X8_takesAtom 45 rfl) rfl ?_
      refine ev_getR (ea_at dt_X8_takesAtom 46 rfl) fl_X8_14 sh_48 rfl ?_
      refine ev_ldcS (j := 24) (ea_at dt_X8_takesAtom 47 rfl) rfl ?_
      refine ev_clI (F1 := F_X9_sees) (fun rY mY hY => ea_runV (As := [.ref (1000 + 24)]) (ea_at dt_X8_takesAtom 48 rfl) ml_X8_71 mv_X9_sees (ok_X9_sees G 49 24 m3 is_Reader_49 (by decide) rY mY hY) sh_49 rfl rfl rfl (Nat.le_of_ble_eq_true rfl) (ea_okR (by omega) (by decide))) rfl (fun r6 m5 => ?_)
      refine ev_if_ne (tgt := 113) (ea_at dt_X8_takesAtom 49 rfl) rfl (fun _ => ?_) (fun _ => ?_)
      · refine ev_aload_n (ea_at dt_X8_takesAtom 50 rfl) rfl ?_
        refine ev_getR (ea_at dt_X8_takesAtom 51 rfl) fl_X8_14 sh_48 rfl ?_
        refine ev_ldcS (j := 25) (ea_at dt_X8_takesAtom 52 rfl) rfl ?_
        refine ev_clI (F1 := F_X9_sees) (fun rY mY hY => ea_runV (As := [.ref (1000 + 25)]) (ea_at dt_X8_takesAtom 53 rfl) ml_X8_71 mv_X9_sees (ok_X9_sees G 49 25 m5 is_Reader_49 (by decide) rY mY hY) sh_49 rfl rfl rfl (Nat.le_of_ble_eq_true rfl) (ea_okR (by omega) (by decide))) rfl (fun r8 m7 => ?_)
        refine ev_if_eq (tgt := 148) (ea_at dt_X8_takesAtom 54 rfl) rfl (fun _ => ?_) (fun _ => ?_)
        · refine ev_aload_n (ea_at dt_X8_takesAtom 71 rfl) rfl ?_
          refine ev_clI (F1 := F_X8_takesSum) (fun rY mY hY => ea_runV (As := []) (ea_at dt_X8_takesAtom 72 rfl) ml_X8_118 mv_X8_takesSum (ok_X8_takesSum G m7  rY mY hY) sh_48 rfl rfl rfl (Nat.le_of_ble_eq_true rfl) (ea_okR (by omega) (by decide))) rfl (fun r10 m9 => ?_)
          refine ev_if_ne (tgt := 157) (ea_at dt_X8_takesAtom 73 rfl) rfl (fun _ => ?_) (fun _ => ?_)
          · refine ev_iconst (ea_at dt_X8_takesAtom 74 rfl) ic_0 ?_
            exact ev_zret (by decide) (ea_at dt_X8_takesAtom 75 rfl) rfl ⟨Nat.le_of_ble_eq_true rfl, Nat.le_of_ble_eq_true rfl⟩ (fun h => hR _ h)
          · refine ev_aload_n (ea_at dt_X8_takesAtom 76 rfl) rfl ?_
            refine ev_getR (ea_at dt_X8_takesAtom 77 rfl) fl_X8_14 sh_48 rfl ?_
            refine ev_bipush (ea_at dt_X8_takesAtom 78 rfl) bp_60 ?_
            refine ev_clI (F1 := F_X9_seesSign) (fun rY mY hY => ea_runV (As := [.int 60]) (ea_at dt_X8_takesAtom 79 rfl) ml_X8_105 mv_X9_seesSign (ok_X9_seesSign G 49 60 m9 is_Reader_49 rY mY hY) sh_49 rfl rfl rfl (Nat.le_of_ble_eq_true rfl) (ea_okR (by omega) (by decide))) rfl (fun r12 m11 => ?_)
            refine ev_istore_n (ls' := [some (.ref 48), some (.int p1), some (.int r2), some (.int r12)]) (ea_at dt_X8_takesAtom 80 rfl) (ea_lt rfl) rfl ?_
            refine ev_aload_n (ea_at dt_X8_takesAtom 81 rfl) rfl ?_
            refine ev_getR (ea_at dt_X8_takesAtom 82 rfl) fl_X8_14 sh_48 rfl ?_
            refine ev_iload_n (ea_at dt_X8_takesAtom 83 rfl) rfl ?_
            refine ev_if_eq (tgt := 180) (ea_at dt_X8_takesAtom 84 rfl) rfl (fun _ => ?_) (fun _ => ?_)
            · refine ev_bipush (ea_at dt_X8_takesAtom 87 rfl) bp_62 ?_
              exact ev_drop (l' := [some (.ref 48), none, none, some (.int r12)]) ⟨Or.inr rfl, Or.inl rfl, Or.inl rfl, Or.inr rfl, trivial⟩ (jn_X8_takesAtom_182 G A r0 hA r12 62 m11  hR)
            · refine ev_bipush (ea_at dt_X8_takesAtom 85 rfl) bp_60 ?_
              refine ev_goto (tgt := 182) (ea_at dt_X8_takesAtom 86 rfl) rfl ?_
              exact ev_drop (l' := [some (.ref 48), none, none, some (.int r12)]) ⟨Or.inr rfl, Or.inl rfl, Or.inl rfl, Or.inr rfl, trivial⟩ (jn_X8_takesAtom_182 G A r0 hA r12 60 m11  hR)
        · exact ev_drop (l' := [some (.ref 48), none, none, none]) ⟨Or.inr rfl, Or.inl rfl, Or.inl rfl, Or.inl rfl, trivial⟩ (jn_X8_takesAtom_113 G A r0 hA m7  hR)
      · exact ev_drop (l' := [some (.ref 48), none, none, none]) ⟨Or.inr rfl, Or.inl rfl, Or.inl rfl, Or.inl rfl, trivial⟩ (jn_X8_takesAtom_113 G A r0 hA m5  hR)
    · exact ev_drop (l' := [some (.ref 48), some (.int p1), some (.int r2), none]) ⟨Or.inr rfl, Or.inr rfl, Or.inr rfl, Or.inl rfl, trivial⟩ (jn_X8_takesAtom_26 G A r0 hA p1 r2 m3  hR)
  · exact ev_drop (l' := [some (.ref 48), some (.int p1), some (.int r2), none]) ⟨Or.inr rfl, Or.inr rfl, Or.inr rfl, Or.inl rfl, trivial⟩ (jn_X8_takesAtom_26 G A r0 hA p1 r2 m1  hR)
def f_X8_takesAtom : Nat → Int32 → ea_M → Option (Int32 × ea_M)
  | 0 => fun _ _ => none
  | n + 1 => g_X8_takesAtom (f_X8_takesAtom n)
theorem ok_X8_takesAtom (G : ea_G) : ∀ (r0 : Nat) (p1 : Int32) (m : ea_M) (r : Int32) (m1 : ea_M), f_X8_takesAtom r0 p1 m = some (r, m1) → ea_Met G yX8_takesAtom (F_X8_takesAtom r0) [.ref 48, .int p1] m (0, r, m1)
  | 0, _, _, _, _, h => by cases h
  | n + 1, p1, m, r, m1, h => gk_X8_takesAtom G (f_X8_takesAtom n) n (fun v0 m r m1 h => ok_X8_takesAtom G n v0 m r m1 h) p1 m r m1 h
def F_X7_closeLine : ea_F := (ea_rm 8 0 0, cX7_closeLine, RX7, none, 1, [], 0, 0)
def D_X7_closeLine : List (Nat × Instr × Nat) := [(0, .aload_n 0, 1), (1, .getfield 9, 3), (4, .bipush 12, 2), (6, .if_icmp .ge 26, 3), (9, .aload_n 0, 1), (10, .getfield 34, 3), (13, .aload_n 0, 1), (14, .getfield 9, 3), (17, .aload_n 0, 1), (18, .getfield 15, 3), (21, .iastore, 1), (22, .aload_n 0, 1), (23, .dup, 1), (24, .getfield 9, 3), (27, .iconst 1, 1), (28, .iadd, 1), (29, .putfield 9, 3), (32, .return_, 1)]
theorem dt_X7_closeLine : ∀ q ∈ D_X7_closeLine, decode cX7_closeLine q.1 = .ok q.2 := by decide +kernel
theorem mv_X7_closeLine : ea_MV yX7_closeLine (F_X7_closeLine) 0 := ⟨⟨List.mem_append_right _ (List.mem_of_getElem? (i := 5) (by decide +kernel)), List.mem_append_right _ (List.mem_of_getElem? (i := 966) (by decide +kernel)), ⟨by decide, by decide⟩, by decide +kernel⟩, List.mem_append_right _ (List.mem_of_getElem? (i := 964) (by decide +kernel)), List.mem_append_right _ (List.mem_of_getElem? (i := 965) (by decide +kernel))⟩
def f_X7_closeLine (a : Nat) (m : ea_M) : Option (Int32 × ea_M) :=
  ea_bd (m a 0) fun x1 =>
  if 12 ≤ x1 then
  some (0, m)
  else
  ea_bd (m a 0) fun x2 =>
  ea_bd (m a 1) fun x3 =>
  ea_g x2 12 (ea_bd (ea_st m (a + 4) (Int32.toNatClampNeg x2) x3) fun m4 =>
  ea_bd (m4 a 0) fun x5 =>
  ea_bd (ea_st m4 a 0 (x5 + 1)) fun m6 =>
  some (0, m6))
set_option maxHeartbeats 300000 in
theorem ok_X7_closeLine (G : ea_G) (a : Nat) (m : ea_M) (ha : ea_isLaw a) (rZ : Int32) (mZ : ea_M) (hZ : f_X7_closeLine a m = some (rZ, mZ)) : ea_Met G yX7_closeLine F_X7_closeLine [.ref a] m (0, rZ, mZ) := by
  refine ea_met (F := F_X7_closeLine) (by decide +kernel) rfl rfl (Nat.le_of_ble_eq_true rfl) (by simp only [List.mem_cons, List.not_mem_nil, or_false]; intro v hv; rcases hv with rfl <;> rfl) ((?_ : ea_E G F_X7_closeLine (0, rZ, mZ) 0 [some (.ref a)] [] m 0 0 (f_X7_closeLine a m) (fun t => t = (rZ, mZ))) (rZ, mZ) hZ rfl)
  have hR : ∀ t : Int32 × ea_M, t = (rZ, mZ) → ((0, rZ, mZ) : ea_O) = (0, t) := fun t h => by rw [h]
  unfold f_X7_closeLine
  refine ev_aload_n (ea_at dt_X7_closeLine 0 rfl) rfl ?_
  refine ev_getI (ea_at dt_X7_closeLine 1 rfl) fl_X7_9 ha.1 rfl ?_
  refine ev_i (fun x1 => ?_)
  refine ev_bipush (ea_at dt_X7_closeLine 2 rfl) bp_12 ?_
  refine ev_icmp_ge (tgt := 32) (ea_at dt_X7_closeLine 3 rfl) rfl (fun _ => ?_) (fun _ => ?_)
  · exact ev_vret (ea_at dt_X7_closeLine 17 rfl) rfl ⟨by decide, by decide⟩ (fun h => ⟨0, hR _ h⟩)
  · refine ev_aload_n (ea_at dt_X7_closeLine 4 rfl) rfl ?_
    refine ev_getR (ea_at dt_X7_closeLine 5 rfl) fl_X7_34 ha.1 rfl ?_
    refine ev_aload_n (ea_at dt_X7_closeLine 6 rfl) rfl ?_
    refine ev_getI (ea_at dt_X7_closeLine 7 rfl) fl_X7_9 ha.1 rfl ?_
    refine ev_i (fun x2 => ?_)
    refine ev_aload_n (ea_at dt_X7_closeLine 8 rfl) rfl ?_
    refine ev_getI (ea_at dt_X7_closeLine 9 rfl) fl_X7_15 ha.1 rfl ?_
    refine ev_i (fun x3 => ?_)
    refine ev_iastore (ea_at dt_X7_closeLine 10 rfl) ha.2.2.2.2.1 (by decide) ?_
    refine ev_m (fun m4 => ?_)
    refine ev_aload_n (ea_at dt_X7_closeLine 11 rfl) rfl ?_
    refine ev_dup (ea_at dt_X7_closeLine 12 rfl) rfl ?_
    refine ev_getI (ea_at dt_X7_closeLine 13 rfl) fl_X7_9 ha.1 rfl ?_
    refine ev_i (fun x5 => ?_)
    refine ev_iconst (ea_at dt_X7_closeLine 14 rfl) ic_1 ?_
    refine ev_iadd (ea_at dt_X7_closeLine 15 rfl) ?_
    refine ev_putI (ea_at dt_X7_closeLine 16 rfl) fl_X7_9 fp_7_0 ha.1 rfl ?_
    refine ev_m (fun m6 => ?_)
    exact ev_vret (ea_at dt_X7_closeLine 17 rfl) rfl ⟨by decide, by decide⟩ (fun h => ⟨0, hR _ h⟩)
def F_X8_takesLine : ea_F := (ea_rm 52 0 0, cX8_takesLine, RX8, some .boolean, 2, [], 0, 0)
def D_X8_takesLine : List (Nat × Instr × Nat) := [(0, .aload_n 0, 1), (1, .invokevirtual 51, 3), (4, .istore_n 1, 1), (5, .iload_n 1, 1), (6, .iconst (-1), 1), (7, .if_icmp .ne 11, 3), (10, .aload_n 0, 1), (11, .getfield 14, 3), (14, .invokevirtual 41, 3), (17, .ireturn, 1), (18, .aload_n 0, 1), (19, .getfield 14, 3), (22, .invokevirtual 55, 3), (25, .aload_n 0, 1), (26, .getfield 14, 3), (29, .iconst 0, 1), (30, .bipush 9, 2), (32, .invokevirtual 58, 3), (35, .ifCond .ne 5, 3), (38, .iconst 0, 1), (39, .ireturn, 1), (40, .aload_n 0, 1), (41, .getfield 20, 3), (44, .iload_n 1, 1), (45, .aload_n 0, 1), (46, .getfield 14, 3), (49, .getfield 62, 3), (52, .invokevirtual 65, 3), (55, .aload_n 0, 1), (56, .getfield 14, 3), (59, .ldc 69, 2), (61, .invokevirtual 71, 3), (64, .ifCond .eq 20, 3), (67, .aload_n 0, 1), (68, .getfield 14, 3), (71, .invokevirtual 55, 3), (74, .aload_n 0, 1), (75, .iconst 0, 1), (76, .invokevirtual 75, 3), (79, .ifCond .ne 5, 3), (82, .iconst 0, 1), (83, .ireturn, 1), (84, .aload_n 0, 1), (85, .getfield 20, 3), (88, .invokevirtual 79, 3), (91, .iconst 1, 1), (92, .ireturn, 1)]
theorem dt_X8_takesLine : ∀ q ∈ D_X8_takesLine, decode cX8_takesLine q.1 = .ok q.2 := by decide +kernel
theorem mv_X8_takesLine : ea_MV yX8_takesLine (F_X8_takesLine) 0 := ⟨⟨List.mem_append_right _ (List.mem_of_getElem? (i := 8) (by decide +kernel)), List.mem_append_right _ (List.mem_of_getElem? (i := 899) (by decide +kernel)), ⟨by decide, by decide⟩, by decide +kernel⟩, List.mem_append_right _ (List.mem_of_getElem? (i := 898) (by decide +kernel)), List.mem_append_left _ (List.mem_of_getElem? (i := 17) (by decide +kernel))⟩
def f_X8_takesLine_j84 (m14 : ea_M) : Option (Int32 × ea_M) :=
  ea_cl (f_X7_closeLine 38 m14) fun r16 m15 =>
  some (1, m15)
def f_X8_takesLine (m : ea_M) : Option (Int32 × ea_M) :=
  ea_cl (f_X8_lineKind m) fun r2 m1 =>
  if r2 = (-1) then
  ea_cl (f_X9_refuse 49 m1) fun r4 m3 =>
  ea_gz r4 (some (r4, m3))
  else
  ea_cl (f_X9_step 49 m1) fun r6 m5 =>
  ea_cl (f_X9_takesNumber 49 0 9 m5) fun r8 m7 =>
  if r8 = 0 then
  some (0, m7)
  else
  ea_bd (m7 49 5) fun x9 =>
  ea_cl (f_X7_openLine 38 r2 x9 m7) fun r11 m10 =>
  ea_cl (f_X9_sees 49 22 m10) fun r13 m12 =>
  if r13 = 0 then
  f_X8_takesLine_j84 m12
  else
  ea_cl (f_X9_step 49 m12) fun r18 m17 =>
  ea_cl (f_X8_takesEither (f_X8_takesAtom 8) 0 m17) fun r20 m19 =>
  if r20 = 0 then
  some (0, m19)
  else
  f_X8_takesLine_j84 m19
set_option maxHeartbeats 300000 in
theorem jn_X8_takesLine_84 (G : ea_G) {res : ea_O}  (m14 : ea_M)  {Φ : (Int32 × ea_M) → Prop} (hR : ∀ t : Int32 × ea_M, Φ t → res = (0, t)) : ea_E G F_X8_takesLine res 84 [some (.ref 48), none] [] m14 0 0 (f_X8_takesLine_j84 m14) Φ := by
  unfold f_X8_takesLine_j84
  refine ev_aload_n (ea_at dt_X8_takesLine 42 rfl) rfl ?_
  refine ev_getR (ea_at dt_X8_takesLine 43 rfl) fl_X8_20 sh_48 rfl ?_
  refine ev_clU (F1 := F_X7_closeLine) (fun rY mY hY => ea_runV (As := []) (ea_at dt_X8_takesLine 44 rfl) ml_X8_79 mv_X7_closeLine (ok_X7_closeLine G 38 m14 is_Law_38 rY mY hY) sh_38 rfl rfl rfl (Nat.le_of_ble_eq_true rfl) rfl) rfl (fun r16 m15 => ?_)
  refine ev_iconst (ea_at dt_X8_takesLine 45 rfl) ic_1 ?_
  exact ev_zret (by decide) (ea_at dt_X8_takesLine 46 rfl) rfl ⟨by decide, by decide⟩ (fun h => hR _ h)
set_option maxHeartbeats 300000 in
theorem ok_X8_takesLine (G : ea_G) (m : ea_M)  (rZ : Int32) (mZ : ea_M) (hZ : f_X8_takesLine m = some (rZ, mZ)) : ea_Met G yX8_takesLine F_X8_takesLine [.ref 48] m (0, rZ, mZ) := by
  refine ea_met (F := F_X8_takesLine) (by decide +kernel) rfl rfl (Nat.le_of_ble_eq_true rfl) (by simp only [List.mem_cons, List.not_mem_nil, or_false]; intro v hv; rcases hv with rfl <;> rfl) ((?_ : ea_E G F_X8_takesLine (0, rZ, mZ) 0 [some (.ref 48), none] [] m 0 0 (f_X8_takesLine m) (fun t => t = (rZ, mZ))) (rZ, mZ) hZ rfl)
  have hR : ∀ t : Int32 × ea_M, t = (rZ, mZ) → ((0, rZ, mZ) : ea_O) = (0, t) := fun t h => by rw [h]
  unfold f_X8_takesLine
  refine ev_aload_n (ea_at dt_X8_takesLine 0 rfl) rfl ?_
  refine ev_clI (F1 := F_X8_lineKind) (fun rY mY hY => ea_runV (As := []) (ea_at dt_X8_takesLine 1 rfl) ml_X8_51 mv_X8_lineKind (ok_X8_lineKind G m  rY mY hY) sh_48 rfl rfl rfl (Nat.le_of_ble_eq_true rfl) rfl) rfl (fun r2 m1 => ?_)
  refine ev_istore_n (ls' := [some (.ref 48), some (.int r2)]) (ea_at dt_X8_takesLine 2 rfl) (ea_lt rfl) rfl ?_
  refine ev_iload_n (ea_at dt_X8_takesLine 3 rfl) rfl ?_
  refine ev_iconst (ea_at dt_X8_takesLine 4 rfl) ic_m1 ?_
  refine ev_icmp_ne (tgt := 18) (ea_at dt_X8_takesLine 5 rfl) rfl (fun _ => ?_) (fun _ => ?_)
  · refine ev_aload_n (ea_at dt_X8_takesLine 6 rfl) rfl ?_
    refine ev_getR (ea_at dt_X8_takesLine 7 rfl) fl_X8_14 sh_48 rfl ?_
    refine ev_clI (F1 := F_X9_refuse) (fun rY mY hY => ea_runV (As := []) (ea_at dt_X8_takesLine 8 rfl) ml_X8_41 mv_X9_refuse (ok_X9_refuse G 49 m1 is_Reader_49 rY mY hY) sh_49 rfl rfl rfl (Nat.le_of_ble_eq_true rfl) rfl) rfl (fun r4 m3 => ?_)
    exact ev_zretG (ea_at dt_X8_takesLine 9 rfl) rfl ⟨by decide, by decide⟩ (fun h => hR _ h)
  · refine ev_aload_n (ea_at dt_X8_takesLine 10 rfl) rfl ?_
    refine ev_getR (ea_at dt_X8_takesLine 11 rfl) fl_X8_14 sh_48 rfl ?_
    refine ev_clU (F1 := F_X9_step) (fun rY mY hY => ea_runV (As := []) (ea_at dt_X8_takesLine 12 rfl) ml_X8_55 mv_X9_step (ok_X9_step G 49 m1 is_Reader_49 rY mY hY) sh_49 rfl rfl rfl (Nat.le_of_ble_eq_true rfl) rfl) rfl (fun r6 m5 => ?_)
    refine ev_aload_n (ea_at dt_X8_takesLine 13 rfl) rfl ?_
    refine ev_getR (ea_at dt_X8_takesLine 14 rfl) fl_X8_14 sh_48 rfl ?_
    refine ev_iconst (ea_at dt_X8_takesLine 15 rfl) ic_0 ?_
    refine ev_bipush (ea_at dt_X8_takesLine 16 rfl) bp_9 ?_
    refine ev_clI (F1 := F_X9_takesNumber) (fun rY mY hY => ea_runV (As := [.int 0, .int 9]) (ea_at dt_X8_takesLine 17 rfl) ml_X8_58 mv_X9_takesNumber (ok_X9_takesNumber G 49 0 9 m5 is_Reader_49 rY mY hY) sh_49 rfl rfl rfl (Nat.le_of_ble_eq_true rfl) rfl) rfl (fun r8 m7 => ?_)
    refine ev_if_ne (tgt := 40) (ea_at dt_X8_takesLine 18 rfl) rfl (fun _ => ?_) (fun _ => ?_)
    · refine ev_iconst (ea_at dt_X8_takesLine 19 rfl) ic_0 ?_
      exact ev_zret (by decide) (ea_at dt_X8_takesLine 20 rfl) rfl ⟨by decide, by decide⟩ (fun h => hR _ h)
    · refine ev_aload_n (ea_at dt_X8_takesLine 21 rfl) rfl ?_
      refine ev_getR (ea_at dt_X8_takesLine 22 rfl) fl_X8_20 sh_48 rfl ?_
      refine ev_iload_n (ea_at dt_X8_takesLine 23 rfl) rfl ?_
      refine ev_aload_n (ea_at dt_X8_takesLine 24 rfl) rfl ?_
      refine ev_getR (ea_at dt_X8_takesLine 25 rfl) fl_X8_14 sh_48 rfl ?_
      refine ev_getI (ea_at dt_X8_takesLine 26 rfl) fl_X8_62 sh_49 rfl ?_
      refine ev_i (fun x9 => ?_)
      refine ev_clU (F1 := F_X7_openLine) (fun rY mY hY => ea_runV (As := [.int r2, .int x9]) (ea_at dt_X8_takesLine 27 rfl) ml_X8_65 mv_X7_openLine (ok_X7_openLine G 38 r2 x9 m7 is_Law_38 rY mY hY) sh_38 rfl rfl rfl (Nat.le_of_ble_eq_true rfl) rfl) rfl (fun r11 m10 => ?_)
      refine ev_aload_n (ea_at dt_X8_takesLine 28 rfl) rfl ?_
      refine ev_getR (ea_at dt_X8_takesLine 29 rfl) fl_X8_14 sh_48 rfl ?_
      refine ev_ldcS (j := 22) (ea_at dt_X8_takesLine 30 rfl) rfl ?_
      refine ev_clI (F1 := F_X9_sees) (fun rY mY hY => ea_runV (As := [.ref (1000 + 22)]) (ea_at dt_X8_takesLine 31 rfl) ml_X8_71 mv_X9_sees (ok_X9_sees G 49 22 m10 is_Reader_49 (by decide) rY mY hY) sh_49 rfl rfl rfl (Nat.le_of_ble_eq_true rfl) rfl) rfl (fun r13 m12 => ?_)
      refine ev_if_eq (tgt := 84) (ea_at dt_X8_takesLine 32 rfl) rfl (fun _ => ?_) (fun _ => ?_)
      · exact ev_drop (l' := [some (.ref 48), none]) ⟨Or.inr rfl, Or.inl rfl, trivial⟩ (jn_X8_takesLine_84 G m12  hR)
      · refine ev_aload_n (ea_at dt_X8_takesLine 33 rfl) rfl ?_
        refine ev_getR (ea_at dt_X8_takesLine 34 rfl) fl_X8_14 sh_48 rfl ?_
        refine ev_clU (F1 := F_X9_step) (fun rY mY hY => ea_runV (As := []) (ea_at dt_X8_takesLine 35 rfl) ml_X8_55 mv_X9_step (ok_X9_step G 49 m12 is_Reader_49 rY mY hY) sh_49 rfl rfl rfl (Nat.le_of_ble_eq_true rfl) rfl) rfl (fun r18 m17 => ?_)
        refine ev_aload_n (ea_at dt_X8_takesLine 36 rfl) rfl ?_
        refine ev_iconst (ea_at dt_X8_takesLine 37 rfl) ic_0 ?_
        refine ev_clI (F1 := (F_X8_takesEither 8)) (fun rY mY hY => ea_runV (As := [.int 0]) (ea_at dt_X8_takesLine 38 rfl) ml_X8_75 (mv_X8_takesEither 8) (ok_X8_takesEither G 8 _ (ok_X8_takesAtom G 8) 0 m17  rY mY hY) sh_48 rfl rfl rfl (Nat.le_of_ble_eq_true rfl) rfl) rfl (fun r20 m19 => ?_)
        refine ev_if_ne (tgt := 84) (ea_at dt_X8_takesLine 39 rfl) rfl (fun _ => ?_) (fun _ => ?_)
        · refine ev_iconst (ea_at dt_X8_takesLine 40 rfl) ic_0 ?_
          exact ev_zret (by decide) (ea_at dt_X8_takesLine 41 rfl) rfl ⟨by decide, by decide⟩ (fun h => hR _ h)
        · exact ev_drop (l' := [some (.ref 48), none]) ⟨Or.inr rfl, Or.inl rfl, trivial⟩ (jn_X8_takesLine_84 G m19  hR)
def F_X8_read : ea_F := (ea_rm 53 0 0, cX8_read, RX8, some .int, 5, [], 0, 0)
def D_X8_read : List (Nat × Instr × Nat) := [(0, .aload_n 0, 1), (1, .getfield 20, 3), (4, .invokevirtual 24, 3), (7, .aload_n 0, 1), (8, .getfield 14, 3), (11, .iload_n 1, 1), (12, .invokevirtual 29, 3), (15, .aload_n 0, 1), (16, .getfield 14, 3), (19, .getfield 33, 3), (22, .ifCond .eq 7, 3), (25, .iconst 1, 1), (26, .goto 4, 3), (29, .iconst 0, 1), (30, .istore_n 2, 1), (31, .iconst 0, 1), (32, .istore_n 3, 1), (33, .iload_n 2, 1), (34, .ifCond .eq 70, 3), (37, .iload_n 3, 1), (38, .bipush 12, 2), (40, .if_icmp .gt 64, 3), (43, .iload_n 3, 1), (44, .bipush 12, 2), (46, .if_icmp .ge 10, 3), (49, .aload_n 0, 1), (50, .invokevirtual 37, 3), (53, .goto 10, 3), (56, .aload_n 0, 1), (57, .getfield 14, 3), (60, .invokevirtual 41, 3), (63, .istore 4, 2), (65, .iload 4, 2), (67, .ifCond .eq 29, 3), (70, .aload_n 0, 1), (71, .getfield 14, 3), (74, .getfield 33, 3), (77, .ifCond .eq 19, 3), (80, .aload_n 0, 1), (81, .getfield 14, 3), (84, .bipush 59, 2), (86, .invokevirtual 44, 3), (89, .ifCond .eq 7, 3), (92, .iconst 1, 1), (93, .goto 4, 3), (96, .iconst 0, 1), (97, .istore_n 2, 1), (98, .iinc 3 1, 3), (101, .goto (-68), 3), (104, .aload_n 0, 1), (105, .getfield 14, 3), (108, .getfield 48, 3), (111, .ireturn, 1)]
theorem dt_X8_read : ∀ q ∈ D_X8_read, decode cX8_read q.1 = .ok q.2 := by decide +kernel
theorem mv_X8_read : ea_MV yX8_read (F_X8_read) 1 := ⟨⟨List.mem_append_right _ (List.mem_of_getElem? (i := 8) (by decide +kernel)), List.mem_append_right _ (List.mem_of_getElem? (i := 890) (by decide +kernel)), ⟨by decide, by decide⟩, by decide +kernel⟩, List.mem_append_right _ (List.mem_of_getElem? (i := 888) (by decide +kernel)), List.mem_append_right _ (List.mem_of_getElem? (i := 889) (by decide +kernel))⟩
def f_X8_read_j97 (x15 : Int32) (x16 : Int32) (m17 : ea_M) : Option ((Int32 × Int32 × ea_M) ⊕ (ea_M)) :=
  some (.inl (x16, x15 + 1, m17))
def f_X8_read_j96 (x13 : Int32) (m14 : ea_M) : Option ((Int32 × Int32 × ea_M) ⊕ (ea_M)) :=
  f_X8_read_j97 x13 0 m14
def f_X8_read_j63 (x10 : Int32) (x11 : Int32) (m12 : ea_M) : Option ((Int32 × Int32 × ea_M) ⊕ (ea_M)) :=
  if x11 = 0 then
  f_X8_read_j96 x10 m12
  else
  ea_bd (m12 49 2) fun x18 =>
  if x18 = 0 then
  f_X8_read_j96 x10 m12
  else
  ea_cl (f_X9_takesSign 49 59 m12) fun r20 m19 =>
  if r20 = 0 then
  f_X8_read_j96 x10 m19
  else
  f_X8_read_j97 x10 1 m19
def f_X8_read_s33  (s33 : Int32 × Int32 × ea_M) : Option ((Int32 × Int32 × ea_M) ⊕ (ea_M)) :=
  if s33.1 = 0 then
  some (.inr s33.2.2)
  else
  if 12 < s33.2.1 then
  some (.inr s33.2.2)
  else
  if 12 ≤ s33.2.1 then
  ea_cl (f_X9_refuse 49 s33.2.2) fun r9 m8 =>
  f_X8_read_j63 s33.2.1 r9 m8
  else
  ea_cl (f_X8_takesLine s33.2.2) fun r22 m21 =>
  f_X8_read_j63 s33.2.1 r22 m21
def f_X8_read_j30 (x6 : Int32) (m7 : ea_M) : Option (Int32 × ea_M) :=
  (ea_loop f_X8_read_s33 ea_fuel (x6, 0, m7)).bind (fun x33s =>
  ea_bd (x33s 49 6) fun x23 =>
  some (x23, x33s))
def f_X8_read (p1 : Int32) (m : ea_M) : Option (Int32 × ea_M) :=
  ea_cl (f_X7_clear 38 m) fun r2 m1 =>
  ea_cl (f_X9_open 49 p1 m1) fun r4 m3 =>
  ea_bd (m3 49 2) fun x5 =>
  if x5 = 0 then
  f_X8_read_j30 0 m3
  else
  f_X8_read_j30 1 m3
set_option maxHeartbeats 300000 in
theorem jn_X8_read_97 (G : ea_G) {res : ea_O}  (x15 : Int32) (x16 : Int32) (m17 : ea_M)  {Φ : ((Int32 × Int32 × ea_M) ⊕ (ea_M)) → Prop} (hC : ∀ s33 : Int32 × Int32 × ea_M, Φ (.inl s33) → ea_Ev G F_X8_read res 33 [some (.ref 48), none, some (.int s33.1), some (.int s33.2.1), none] [] s33.2.2 0 0) (hX : ∀ x33s : ea_M, Φ (.inr x33s) → ea_Ev G F_X8_read res 104 [some (.ref 48), none, none, none, none] [] x33s 0 0) : ea_E G F_X8_read res 97 [some (.ref 48), none, none, some (.int x15), none] [.int x16] m17 0 0 (f_X8_read_j97 x15 x16 m17) Φ := by
  unfold f_X8_read_j97
  refine ev_istore_n (ls' := [some (.ref 48), none, some (.int x16), some (.int x15), none]) (ea_at dt_X8_read 46 rfl) (ea_lt rfl) rfl ?_
  refine ev_iinc (ls' := [some (.ref 48), none, some (.int x16), some (.int (x15 + 1)), none]) (ea_at dt_X8_read 47 rfl) rfl (congrArg (fun z => _ + z) ic_1) (ea_lt rfl) rfl ?_
  refine ev_goto (tgt := 33) (ea_at dt_X8_read 48 rfl) rfl ?_
  exact ev_leaf (fun h => ea_drop (l' := [some (.ref 48), none, some (.int x16), some (.int (x15 + 1)), none]) ⟨Or.inr rfl, Or.inl rfl, Or.inr rfl, Or.inr rfl, Or.inl rfl, trivial⟩ (hC (x16, x15 + 1, m17) h))
set_option maxHeartbeats 300000 in
theorem jn_X8_read_96 (G : ea_G) {res : ea_O}  (x13 : Int32) (m14 : ea_M)  {Φ : ((Int32 × Int32 × ea_M) ⊕ (ea_M)) → Prop} (hC : ∀ s33 : Int32 × Int32 × ea_M, Φ (.inl s33) → ea_Ev G F_X8_read res 33 [some (.ref 48), none, some (.int s33.1), some (.int s33.2.1), none] [] s33.2.2 0 0) (hX : ∀ x33s : ea_M, Φ (.inr x33s) → ea_Ev G F_X8_read res 104 [some (.ref 48), none, none, none, none] [] x33s 0 0) : ea_E G F_X8_read res 96 [some (.ref 48), none, none, some (.int x13), none] [] m14 0 0 (f_X8_read_j96 x13 m14) Φ := by
  unfold f_X8_read_j96
  refine ev_iconst (ea_at dt_X8_read 45 rfl) ic_0 ?_
  exact ev_drop (l' := [some (.ref 48), none, none, some (.int x13), none]) ⟨Or.inr rfl, Or.inl rfl, Or.inl rfl, Or.inr rfl, Or.inl rfl, trivial⟩ (jn_X8_read_97 G x13 0 m14  hC hX)
set_option maxHeartbeats 300000 in
theorem jn_X8_read_63 (G : ea_G) {res : ea_O}  (x10 : Int32) (x11 : Int32) (m12 : ea_M)  {Φ : ((Int32 × Int32 × ea_M) ⊕ (ea_M)) → Prop} (hC : ∀ s33 : Int32 × Int32 × ea_M, Φ (.inl s33) → ea_Ev G F_X8_read res 33 [some (.ref 48), none, some (.int s33.1), some (.int s33.2.1), none] [] s33.2.2 0 0) (hX : ∀ x33s : ea_M, Φ (.inr x33s) → ea_Ev G F_X8_read res 104 [some (.ref 48), none, none, none, none] [] x33s 0 0) : ea_E G F_X8_read res 63 [some (.ref 48), none, none, some (.int x10), none] [.int x11] m12 0 0 (f_X8_read_j63 x10 x11 m12) Φ := by
  unfold f_X8_read_j63
  refine ev_istore (ls' := [some (.ref 48), none, none, some (.int x10), some (.int x11)]) (ea_at dt_X8_read 31 rfl) (ea_lt rfl) rfl ?_
  refine ev_iload (ea_at dt_X8_read 32 rfl) rfl ?_
  refine ev_if_eq (tgt := 96) (ea_at dt_X8_read 33 rfl) rfl (fun _ => ?_) (fun _ => ?_)
  · exact ev_drop (l' := [some (.ref 48), none, none, some (.int x10), none]) ⟨Or.inr rfl, Or.inl rfl, Or.inl rfl, Or.inr rfl, Or.inl rfl, trivial⟩ (jn_X8_read_96 G x10 m12  hC hX)
  · refine ev_aload_n (ea_at dt_X8_read 34 rfl) rfl ?_
    refine ev_getR (ea_at dt_X8_read 35 rfl) fl_X8_14 sh_48 rfl ?_
    refine ev_getI (ea_at dt_X8_read 36 rfl) fl_X8_33 sh_49 rfl ?_
    refine ev_i (fun x18 => ?_)
    refine ev_if_eq (tgt := 96) (ea_at dt_X8_read 37 rfl) rfl (fun _ => ?_) (fun _ => ?_)
    · exact ev_drop (l' := [some (.ref 48), none, none, some (.int x10), none]) ⟨Or.inr rfl, Or.inl rfl, Or.inl rfl, Or.inr rfl, Or.inl rfl, trivial⟩ (jn_X8_read_96 G x10 m12  hC hX)
    · refine ev_aload_n (ea_at dt_X8_read 38 rfl) rfl ?_
      refine ev_getR (ea_at dt_X8_read 39 rfl) fl_X8_14 sh_48 rfl ?_
      refine ev_bipush (ea_at dt_X8_read 40 rfl) bp_59 ?_
      refine ev_clI (F1 := F_X9_takesSign) (fun rY mY hY => ea_runV (As := [.int 59]) (ea_at dt_X8_read 41 rfl) ml_X8_44 mv_X9_takesSign (ok_X9_takesSign G 49 59 m12 is_Reader_49 rY mY hY) sh_49 rfl rfl rfl (Nat.le_of_ble_eq_true rfl) rfl) rfl (fun r20 m19 => ?_)
      refine ev_if_eq (tgt := 96) (ea_at dt_X8_read 42 rfl) rfl (fun _ => ?_) (fun _ => ?_)
      · exact ev_drop (l' := [some (.ref 48), none, none, some (.int x10), none]) ⟨Or.inr rfl, Or.inl rfl, Or.inl rfl, Or.inr rfl, Or.inl rfl, trivial⟩ (jn_X8_read_96 G x10 m19  hC hX)
      · refine ev_iconst (ea_at dt_X8_read 43 rfl) ic_1 ?_
        refine ev_goto (tgt := 97) (ea_at dt_X8_read 44 rfl) rfl ?_
        exact ev_drop (l' := [some (.ref 48), none, none, some (.int x10), none]) ⟨Or.inr rfl, Or.inl rfl, Or.inl rfl, Or.inr rfl, Or.inl rfl, trivial⟩ (jn_X8_read_97 G x10 1 m19  hC hX)
set_option maxHeartbeats 300000 in
theorem lp_X8_read_33 (G : ea_G) {res : ea_O}    {Ψ : ea_M → Prop} (hX : ∀ x33s : ea_M, Ψ x33s → ea_Ev G F_X8_read res 104 [some (.ref 48), none, none, none, none] [] x33s 0 0) : ∀ (f : Nat) (s33 : Int32 × Int32 × ea_M), ea_E G F_X8_read res 33 [some (.ref 48), none, some (.int s33.1), some (.int s33.2.1), none] [] s33.2.2 0 0 (ea_loop f_X8_read_s33 f s33) Ψ := by
  refine ev_loop (G := G) (F := F_X8_read) (res := res) (pc := 33) (st := []) (k := 0) (n := 0) (step := f_X8_read_s33) (Ψ := Ψ) (fun (s33 : Int32 × Int32 × ea_M) => [some (.ref 48), none, some (.int s33.1), some (.int s33.2.1), none]) (fun (s33 : Int32 × Int32 × ea_M) => s33.2.2) (fun s33 => ?_)
  have hC : ∀ s33 : Int32 × Int32 × ea_M, (Sum.elim (fun s33 : Int32 × Int32 × ea_M => ea_Ev G F_X8_read res 33 [some (.ref 48), none, some (.int s33.1), some (.int s33.2.1), none] [] s33.2.2 0 0) Ψ) (.inl s33) → ea_Ev G F_X8_read res 33 [some (.ref 48), none, some (.int s33.1), some (.int s33.2.1), none] [] s33.2.2 0 0 := fun _ h => h
  have hX : ∀ x33s : ea_M, (Sum.elim (fun s33 : Int32 × Int32 × ea_M => ea_Ev G F_X8_read res 33 [some (.ref 48), none, some (.int s33.1), some (.int s33.2.1), none] [] s33.2.2 0 0) Ψ) (.inr x33s) → ea_Ev G F_X8_read res 104 [some (.ref 48), none, none, none, none] [] x33s 0 0 := hX
  unfold f_X8_read_s33
  refine ev_iload_n (ea_at dt_X8_read 17 rfl) rfl ?_
  refine ev_if_eq (tgt := 104) (ea_at dt_X8_read 18 rfl) rfl (fun _ => ?_) (fun _ => ?_)
  · exact ev_leaf (fun h => ea_drop (l' := [some (.ref 48), none, none, none, none]) ⟨Or.inr rfl, Or.inl rfl, Or.inl rfl, Or.inl rfl, Or.inl rfl, trivial⟩ (hX s33.2.2 h))
  · refine ev_iload_n (ea_at dt_X8_read 19 rfl) rfl ?_
    refine ev_bipush (ea_at dt_X8_read 20 rfl) bp_12 ?_
    refine ev_icmp_gt (tgt := 104) (ea_at dt_X8_read 21 rfl) rfl (fun _ => ?_) (fun _ => ?_)
    · exact ev_leaf (fun h => ea_drop (l' := [some (.ref 48), none, none, none, none]) ⟨Or.inr rfl, Or.inl rfl, Or.inl rfl, Or.inl rfl, Or.inl rfl, trivial⟩ (hX s33.2.2 h))
    · refine ev_iload_n (ea_at dt_X8_read 22 rfl) rfl ?_
      refine ev_bipush (ea_at dt_X8_read 23 rfl) bp_12 ?_
      refine ev_icmp_ge (tgt := 56) (ea_at dt_X8_read 24 rfl) rfl (fun _ => ?_) (fun _ => ?_)
      · refine ev_aload_n (ea_at dt_X8_read 28 rfl) rfl ?_
        refine ev_getR (ea_at dt_X8_read 29 rfl) fl_X8_14 sh_48 rfl ?_
        refine ev_clI (F1 := F_X9_refuse) (fun rY mY hY => ea_runV (As := []) (ea_at dt_X8_read 30 rfl) ml_X8_41 mv_X9_refuse (ok_X9_refuse G 49 s33.2.2 is_Reader_49 rY mY hY) sh_49 rfl rfl rfl (Nat.le_of_ble_eq_true rfl) rfl) rfl (fun r9 m8 => ?_)
        exact ev_drop (l' := [some (.ref 48), none, none, some (.int s33.2.1), none]) ⟨Or.inr rfl, Or.inl rfl, Or.inl rfl, Or.inr rfl, Or.inl rfl, trivial⟩ (jn_X8_read_63 G s33.2.1 r9 m8  hC hX)
      · refine ev_aload_n (ea_at dt_X8_read 25 rfl) rfl ?_
        refine ev_clI (F1 := F_X8_takesLine) (fun rY mY hY => ea_runV (As := []) (ea_at dt_X8_read 26 rfl) ml_X8_37 mv_X8_takesLine (ok_X8_takesLine G s33.2.2  rY mY hY) sh_48 rfl rfl rfl (Nat.le_of_ble_eq_true rfl) rfl) rfl (fun r22 m21 => ?_)
        refine ev_goto (tgt := 63) (ea_at dt_X8_read 27 rfl) rfl ?_
        exact ev_drop (l' := [some (.ref 48), none, none, some (.int s33.2.1), none]) ⟨Or.inr rfl, Or.inl rfl, Or.inl rfl, Or.inr rfl, Or.inl rfl, trivial⟩ (jn_X8_read_63 G s33.2.1 r22 m21  hC hX)
set_option maxHeartbeats 300000 in
theorem jn_X8_read_30 (G : ea_G) {res : ea_O}  (x6 : Int32) (m7 : ea_M)  {Φ : (Int32 × ea_M) → Prop} (hR : ∀ t : Int32 × ea_M, Φ t → res = (0, t)) : ea_E G F_X8_read res 30 [some (.ref 48), none, none, none, none] [.int x6] m7 0 0 (f_X8_read_j30 x6 m7) Φ := by
  unfold f_X8_read_j30
  refine ev_istore_n (ls' := [some (.ref 48), none, some (.int x6), none, none]) (ea_at dt_X8_read 14 rfl) (ea_lt rfl) rfl ?_
  refine ev_iconst (ea_at dt_X8_read 15 rfl) ic_0 ?_
  refine ev_istore_n (ls' := [some (.ref 48), none, some (.int x6), some (.int 0), none]) (ea_at dt_X8_read 16 rfl) (ea_lt rfl) rfl ?_
  refine ev_drop (l' := [some (.ref 48), none, some (.int x6), some (.int 0), none]) ⟨Or.inr rfl, Or.inl rfl, Or.inr rfl, Or.inr rfl, Or.inl rfl, trivial⟩ ?_
  refine ev_bind (lp_X8_read_33 G   (fun x33s h => ?_) ea_fuel (x6, 0, m7))
  obtain ⟨t1, e1, q1⟩ := h
  refine (?_ : ea_E G F_X8_read res 104 [some (.ref 48), none, none, none, none] [] x33s 0 0 _ Φ) t1 e1 q1
  refine ev_aload_n (ea_at dt_X8_read 49 rfl) rfl ?_
  refine ev_getR (ea_at dt_X8_read 50 rfl) fl_X8_14 sh_48 rfl ?_
  refine ev_getI (ea_at dt_X8_read 51 rfl) fl_X8_48 sh_49 rfl ?_
  refine ev_i (fun x23 => ?_)
  exact ev_iret (ea_at dt_X8_read 52 rfl) rfl ⟨by decide, by decide⟩ (fun h => hR _ h)
set_option maxHeartbeats 300000 in
theorem ok_X8_read (G : ea_G) (p1 : Int32) (m : ea_M)  (rZ : Int32) (mZ : ea_M) (hZ : f_X8_read p1 m = some (rZ, mZ)) : ea_Met G yX8_read F_X8_read [.ref 48, .int p1] m (0, rZ, mZ) := by
  refine ea_met (F := F_X8_read) (by decide +kernel) rfl rfl (Nat.le_of_ble_eq_true rfl) (by simp only [List.mem_cons, List.not_mem_nil, or_false]; intro v hv; rcases hv with rfl | rfl <;> rfl) ((?_ : ea_E G F_X8_read (0, rZ, mZ) 0 [some (.ref 48), some (.int p1), none, none, none] [] m 0 0 (f_X8_read p1 m) (fun t => t = (rZ, mZ))) (rZ, mZ) hZ rfl)
  have hR : ∀ t : Int32 × ea_M, t = (rZ, mZ) → ((0, rZ, mZ) : ea_O) = (0, t) := fun t h => by rw [h]
  unfold f_X8_read
  refine ev_aload_n (ea_at dt_X8_read 0 rfl) rfl ?_
  refine ev_getR (ea_at dt_X8_read 1 rfl) fl_X8_20 sh_48 rfl ?_
  refine ev_clU (F1 := F_X7_clear) (fun rY mY hY => ea_runV (As := []) (ea_at dt_X8_read 2 rfl) ml_X8_24 mv_X7_clear (ok_X7_clear G 38 m is_Law_38 rY mY hY) sh_38 rfl rfl rfl (Nat.le_of_ble_eq_true rfl) rfl) rfl (fun r2 m1 => ?_)
  refine ev_aload_n (ea_at dt_X8_read 3 rfl) rfl ?_
  refine ev_getR (ea_at dt_X8_read 4 rfl) fl_X8_14 sh_48 rfl ?_
  refine ev_iload_n (ea_at dt_X8_read 5 rfl) rfl ?_
  refine ev_clU (F1 := F_X9_open) (fun rY mY hY => ea_runV (As := [.int p1]) (ea_at dt_X8_read 6 rfl) ml_X8_29 mv_X9_open (ok_X9_open G 49 p1 m1 is_Reader_49 rY mY hY) sh_49 rfl rfl rfl (Nat.le_of_ble_eq_true rfl) rfl) rfl (fun r4 m3 => ?_)
  refine ev_aload_n (ea_at dt_X8_read 7 rfl) rfl ?_
  refine ev_getR (ea_at dt_X8_read 8 rfl) fl_X8_14 sh_48 rfl ?_
  refine ev_getI (ea_at dt_X8_read 9 rfl) fl_X8_33 sh_49 rfl ?_
  refine ev_i (fun x5 => ?_)
  refine ev_if_eq (tgt := 29) (ea_at dt_X8_read 10 rfl) rfl (fun _ => ?_) (fun _ => ?_)
  · refine ev_iconst (ea_at dt_X8_read 13 rfl) ic_0 ?_
    exact ev_drop (l' := [some (.ref 48), none, none, none, none]) ⟨Or.inr rfl, Or.inl rfl, Or.inl rfl, Or.inl rfl, Or.inl rfl, trivial⟩ (jn_X8_read_30 G 0 m3  hR)
  · refine ev_iconst (ea_at dt_X8_read 11 rfl) ic_1 ?_
    refine ev_goto (tgt := 30) (ea_at dt_X8_read 12 rfl) rfl ?_
    exact ev_drop (l' := [some (.ref 48), none, none, none, none]) ⟨Or.inr rfl, Or.inl rfl, Or.inl rfl, Or.inl rfl, Or.inl rfl, trivial⟩ (jn_X8_read_30 G 1 m3  hR)
def F_X7_copyFrom : ea_F := (ea_rm 8 0 0, cX7_copyFrom, RX7, none, 2, [], 0, 0)
def D_X7_copyFrom : List (Nat × Instr × Nat) := [(0, .aload_n 0, 1), (1, .aload_n 1, 1), (2, .getfield 9, 3), (5, .putfield 9, 3), (8, .aload_n 0, 1), (9, .aload_n 1, 1), (10, .getfield 15, 3), (13, .putfield 15, 3), (16, .aload_n 1, 1), (17, .getfield 24, 3), (20, .iconst 0, 1), (21, .aload_n 0, 1), (22, .getfield 24, 3), (25, .iconst 0, 1), (26, .bipush 12, 2), (28, .invokestatic 46, 3), (31, .aload_n 1, 1), (32, .getfield 28, 3), (35, .iconst 0, 1), (36, .aload_n 0, 1), (37, .getfield 28, 3), (40, .iconst 0, 1), (41, .bipush 12, 2), (43, .invokestatic 46, 3), (46, .aload_n 1, 1), (47, .getfield 31, 3), (50, .iconst 0, 1), (51, .aload_n 0, 1), (52, .getfield 31, 3), (55, .iconst 0, 1), (56, .bipush 12, 2), (58, .invokestatic 46, 3), (61, .aload_n 1, 1), (62, .getfield 34, 3), (65, .iconst 0, 1), (66, .aload_n 0, 1), (67, .getfield 34, 3), (70, .iconst 0, 1), (71, .bipush 12, 2), (73, .invokestatic 46, 3), (76, .aload_n 1, 1), (77, .getfield 37, 3), (80, .iconst 0, 1), (81, .aload_n 0, 1), (82, .getfield 37, 3), (85, .iconst 0, 1), (86, .aload_n 0, 1), (87, .getfield 15, 3), (90, .invokestatic 46, 3), (93, .return_, 1)]
theorem dt_X7_copyFrom : ∀ q ∈ D_X7_copyFrom, decode cX7_copyFrom q.1 = .ok q.2 := by decide +kernel
theorem mv_X7_copyFrom : ea_MV yX7_copyFrom (F_X7_copyFrom) 1 := ⟨⟨List.mem_append_right _ (List.mem_of_getElem? (i := 5) (by decide +kernel)), List.mem_append_right _ (List.mem_of_getElem? (i := 624) (by decide +kernel)), ⟨by decide, by decide⟩, by decide +kernel⟩, List.mem_append_right _ (List.mem_of_getElem? (i := 622) (by decide +kernel)), List.mem_append_right _ (List.mem_of_getElem? (i := 623) (by decide +kernel))⟩
def f_X7_copyFrom (a : Nat) (p1 : Nat) (m : ea_M) : Option (Int32 × ea_M) :=
  ea_bd (m p1 0) fun x1 =>
  ea_bd (ea_st m a 0 x1) fun m2 =>
  ea_bd (m2 p1 1) fun x3 =>
  ea_bd (ea_st m2 a 1 x3) fun m4 =>
  ea_bd (ea_up m4 (a + 1) (va_cpy (m4 (p1 + 1)) (m4 (a + 1)) 0 0 12)) fun m5 =>
  ea_bd (ea_up m5 (a + 2) (va_cpy (m5 (p1 + 2)) (m5 (a + 2)) 0 0 12)) fun m6 =>
  ea_bd (ea_up m6 (a + 3) (va_cpy (m6 (p1 + 3)) (m6 (a + 3)) 0 0 12)) fun m7 =>
  ea_bd (ea_up m7 (a + 4) (va_cpy (m7 (p1 + 4)) (m7 (a + 4)) 0 0 12)) fun m8 =>
  ea_bd (m8 a 1) fun x9 =>
  if (0 : Int32) < 0 ∨ (0 : Int32) < 0 ∨ x9 < 0 ∨ 400 < Int32.toNatClampNeg 0 + Int32.toNatClampNeg x9 ∨ 400 < Int32.toNatClampNeg 0 + Int32.toNatClampNeg x9 then none else ea_bd (ea_up m8 (a + 5) (va_cpy (m8 (p1 + 5)) (m8 (a + 5)) (Int32.toNatClampNeg 0) (Int32.toNatClampNeg 0) (Int32.toNatClampNeg x9))) fun m10 =>
  some (0, m10)
set_option maxHeartbeats 300000 in
theorem ok_X7_copyFrom (G : ea_G) (a : Nat) (p1 : Nat) (m : ea_M) (ha : ea_isLaw a) (hp1 : ea_isLaw p1) (rZ : Int32) (mZ : ea_M) (hZ : f_X7_copyFrom a p1 m = some (rZ, mZ)) : ea_Met G yX7_copyFrom F_X7_copyFrom [.ref a, .ref p1] m (0, rZ, mZ) := by
  refine ea_met (F := F_X7_copyFrom) (by decide +kernel) rfl rfl (Nat.le_of_ble_eq_true rfl) (by simp only [List.mem_cons, List.not_mem_nil, or_false]; intro v hv; rcases hv with rfl | rfl <;> rfl) ((?_ : ea_E G F_X7_copyFrom (0, rZ, mZ) 0 [some (.ref a), some (.ref p1)] [] m 0 0 (f_X7_copyFrom a p1 m) (fun t => t = (rZ, mZ))) (rZ, mZ) hZ rfl)
  have hR : ∀ t : Int32 × ea_M, t = (rZ, mZ) → ((0, rZ, mZ) : ea_O) = (0, t) := fun t h => by rw [h]
  unfold f_X7_copyFrom
  refine ev_aload_n (ea_at dt_X7_copyFrom 0 rfl) rfl ?_
  refine ev_aload_n (ea_at dt_X7_copyFrom 1 rfl) rfl ?_
  refine ev_getI (ea_at dt_X7_copyFrom 2 rfl) fl_X7_9 hp1.1 rfl ?_
  refine ev_i (fun x1 => ?_)
  refine ev_putI (ea_at dt_X7_copyFrom 3 rfl) fl_X7_9 fp_7_0 ha.1 rfl ?_
  refine ev_m (fun m2 => ?_)
  refine ev_aload_n (ea_at dt_X7_copyFrom 4 rfl) rfl ?_
  refine ev_aload_n (ea_at dt_X7_copyFrom 5 rfl) rfl ?_
  refine ev_getI (ea_at dt_X7_copyFrom 6 rfl) fl_X7_15 hp1.1 rfl ?_
  refine ev_i (fun x3 => ?_)
  refine ev_putI (ea_at dt_X7_copyFrom 7 rfl) fl_X7_15 fp_7_1 ha.1 rfl ?_
  refine ev_m (fun m4 => ?_)
  refine ev_aload_n (ea_at dt_X7_copyFrom 8 rfl) rfl ?_
  refine ev_getR (ea_at dt_X7_copyFrom 9 rfl) fl_X7_24 hp1.1 rfl ?_
  refine ev_iconst (ea_at dt_X7_copyFrom 10 rfl) ic_0 ?_
  refine ev_aload_n (ea_at dt_X7_copyFrom 11 rfl) rfl ?_
  refine ev_getR (ea_at dt_X7_copyFrom 12 rfl) fl_X7_24 ha.1 rfl ?_
  refine ev_iconst (ea_at dt_X7_copyFrom 13 rfl) ic_0 ?_
  refine ev_bipush (ea_at dt_X7_copyFrom 14 rfl) bp_12 ?_
  refine ev_copyC (sp' := 0) (dp' := 0) (len' := 12) (ea_at dt_X7_copyFrom 15 rfl) ml_X7_46 ea_copyW hp1.2.1 ha.2.1 (by decide) (by decide) (by decide) (by decide) (by decide) ⟨by decide, by decide⟩ ⟨by decide, by decide⟩ ?_
  refine ev_m (fun m5 => ?_)
  refine ev_aload_n (ea_at dt_X7_copyFrom 16 rfl) rfl ?_
  refine ev_getR (ea_at dt_X7_copyFrom 17 rfl) fl_X7_28 hp1.1 rfl ?_
  refine ev_iconst (ea_at dt_X7_copyFrom 18 rfl) ic_0 ?_
  refine ev_aload_n (ea_at dt_X7_copyFrom 19 rfl) rfl ?_
  refine ev_getR (ea_at dt_X7_copyFrom 20 rfl) fl_X7_28 ha.1 rfl ?_
  refine ev_iconst (ea_at dt_X7_copyFrom 21 rfl) ic_0 ?_
  refine ev_bipush (ea_at dt_X7_copyFrom 22 rfl) bp_12 ?_
  refine ev_copyC (sp' := 0) (dp' := 0) (len' := 12) (ea_at dt_X7_copyFrom 23 rfl) ml_X7_46 ea_copyW hp1.2.2.1 ha.2.2.1 (by decide) (by decide) (by decide) (by decide) (by decide) ⟨by decide, by decide⟩ ⟨by decide, by decide⟩ ?_
  refine ev_m (fun m6 => ?_)
  refine ev_aload_n (ea_at dt_X7_copyFrom 24 rfl) rfl ?_
  refine ev_getR (ea_at dt_X7_copyFrom 25 rfl) fl_X7_31 hp1.1 rfl ?_
  refine ev_iconst (ea_at dt_X7_copyFrom 26 rfl) ic_0 ?_
  refine ev_aload_n (ea_at dt_X7_copyFrom 27 rfl) rfl ?_
  refine ev_getR (ea_at dt_X7_copyFrom 28 rfl) fl_X7_31 ha.1 rfl ?_
  refine ev_iconst (ea_at dt_X7_copyFrom 29 rfl) ic_0 ?_
  refine ev_bipush (ea_at dt_X7_copyFrom 30 rfl) bp_12 ?_
  refine ev_copyC (sp' := 0) (dp' := 0) (len' := 12) (ea_at dt_X7_copyFrom 31 rfl) ml_X7_46 ea_copyW hp1.2.2.2.1 ha.2.2.2.1 (by decide) (by decide) (by decide) (by decide) (by decide) ⟨by decide, by decide⟩ ⟨by decide, by decide⟩ ?_
  refine ev_m (fun m7 => ?_)
  refine ev_aload_n (ea_at dt_X7_copyFrom 32 rfl) rfl ?_
  refine ev_getR (ea_at dt_X7_copyFrom 33 rfl) fl_X7_34 hp1.1 rfl ?_
  refine ev_iconst (ea_at dt_X7_copyFrom 34 rfl) ic_0 ?_
  refine ev_aload_n (ea_at dt_X7_copyFrom 35 rfl) rfl ?_
  refine ev_getR (ea_at dt_X7_copyFrom 36 rfl) fl_X7_34 ha.1 rfl ?_
  refine ev_iconst (ea_at dt_X7_copyFrom 37 rfl) ic_0 ?_
  refine ev_bipush (ea_at dt_X7_copyFrom 38 rfl) bp_12 ?_
  refine ev_copyC (sp' := 0) (dp' := 0) (len' := 12) (ea_at dt_X7_copyFrom 39 rfl) ml_X7_46 ea_copyW hp1.2.2.2.2.1 ha.2.2.2.2.1 (by decide) (by decide) (by decide) (by decide) (by decide) ⟨by decide, by decide⟩ ⟨by decide, by decide⟩ ?_
  refine ev_m (fun m8 => ?_)
  refine ev_aload_n (ea_at dt_X7_copyFrom 40 rfl) rfl ?_
  refine ev_getR (ea_at dt_X7_copyFrom 41 rfl) fl_X7_37 hp1.1 rfl ?_
  refine ev_iconst (ea_at dt_X7_copyFrom 42 rfl) ic_0 ?_
  refine ev_aload_n (ea_at dt_X7_copyFrom 43 rfl) rfl ?_
  refine ev_getR (ea_at dt_X7_copyFrom 44 rfl) fl_X7_37 ha.1 rfl ?_
  refine ev_iconst (ea_at dt_X7_copyFrom 45 rfl) ic_0 ?_
  refine ev_aload_n (ea_at dt_X7_copyFrom 46 rfl) rfl ?_
  refine ev_getI (ea_at dt_X7_copyFrom 47 rfl) fl_X7_15 ha.1 rfl ?_
  refine ev_i (fun x9 => ?_)
  refine ev_copy (ea_at dt_X7_copyFrom 48 rfl) ml_X7_46 ea_copyW hp1.2.2.2.2.2.1 ha.2.2.2.2.2.1 ⟨by decide, by decide⟩ ⟨by decide, by decide⟩ ?_
  refine ev_m (fun m10 => ?_)
  exact ev_vret (ea_at dt_X7_copyFrom 49 rfl) rfl ⟨by decide, by decide⟩ (fun h => ⟨0, hR _ h⟩)
def F_X11_law : ea_F := (ea_rm 54 1 6, cX11_law, RX11, some .int, 2, [], 1, 6)
def D_X11_law : List (Nat × Instr × Nat) := [(0, .aload_n 0, 1), (1, .invokevirtual 117, 3), (4, .istore_n 1, 1), (5, .aload_n 0, 1), (6, .aload_n 0, 1), (7, .getfield 54, 3), (10, .iload_n 1, 1), (11, .invokevirtual 150, 3), (14, .putfield 17, 3), (17, .aload_n 0, 1), (18, .getfield 17, 3), (21, .iconst (-1), 1), (22, .if_icmp .eq 13, 3), (25, .new 129, 3), (28, .dup, 1), (29, .ldc 131, 2), (31, .invokespecial 133, 3), (34, .athrow, 1), (35, .aload_n 0, 1), (36, .getfield 30, 3), (39, .aload_n 0, 1), (40, .getfield 37, 3), (43, .invokevirtual 151, 3), (46, .aload_n 0, 1), (47, .invokevirtual 144, 3), (50, .aload_n 0, 1), (51, .invokevirtual 147, 3), (54, .aload_n 0, 1), (55, .getfield 30, 3), (58, .getfield 154, 3), (61, .ireturn, 1)]
theorem dt_X11_law : ∀ q ∈ D_X11_law, decode cX11_law q.1 = .ok q.2 := by decide +kernel
theorem mv_X11_law : ea_MV yX11_law (F_X11_law) 0 := ⟨⟨List.mem_append_right _ (List.mem_of_getElem? (i := 1) (by decide +kernel)), List.mem_append_right _ (List.mem_of_getElem? (i := 886) (by decide +kernel)), ⟨by decide, by decide⟩, by decide +kernel⟩, List.mem_append_right _ (List.mem_of_getElem? (i := 884) (by decide +kernel)), List.mem_append_right _ (List.mem_of_getElem? (i := 885) (by decide +kernel))⟩
def f_X11_law (m : ea_M) : Option (ea_O) :=
  ea_cl (f_X11_useTapeUp m) fun r2 m1 =>
  ea_cl (f_X8_read r2 m1) fun r4 m3 =>
  ea_bd (ea_st m3 0 2 r4) fun m5 =>
  ea_bd (m5 0 2) fun x6 =>
  if x6 = (-1) then
  ea_cl (f_X7_copyFrom 16 38 m5) fun r8 m7 =>
  ea_cl (f_X11_forgetActs m7) fun r10 m9 =>
  ea_cl (f_X11_forgetFates m9) fun r12 m11 =>
  ea_bd (m11 16 0) fun x13 =>
  some (0, x13, m11)
  else
  some (2, 0, m5)
set_option maxHeartbeats 300000 in
theorem ok_X11_law (G : ea_G) (m : ea_M)  (zZ : ea_O) (hZ : f_X11_law m = some zZ) : ea_Met G yX11_law F_X11_law [.ref 0] m zZ := by
  refine ea_met (F := F_X11_law) (by decide +kernel) rfl rfl (Nat.le_of_ble_eq_true rfl) (by simp only [List.mem_cons, List.not_mem_nil, or_false]; intro v hv; rcases hv with rfl <;> rfl) ((?_ : ea_E G F_X11_law zZ 0 [some (.ref 0), none] [] m 0 0 (f_X11_law m) (fun t => t = zZ)) zZ hZ rfl)
  have hR : ∀ t : ea_O, t = zZ → zZ = t := fun t h => h.symm
  unfold f_X11_law
  refine ev_aload_n (ea_at dt_X11_law 0 rfl) rfl ?_
  refine ev_clI (F1 := F_X11_useTapeUp) (fun rY mY hY => ea_runV (As := []) (ea_at dt_X11_law 1 rfl) ml_X11_117 mv_X11_useTapeUp (ok_X11_useTapeUp G m  rY mY hY) sh_0 rfl rfl rfl (Nat.le_of_ble_eq_true rfl) rfl) rfl (fun r2 m1 => ?_)
  refine ev_istore_n (ls' := [some (.ref 0), some (.int r2)]) (ea_at dt_X11_law 2 rfl) (ea_lt rfl) rfl ?_
  refine ev_aload_n (ea_at dt_X11_law 3 rfl) rfl ?_
  refine ev_aload_n (ea_at dt_X11_law 4 rfl) rfl ?_
  refine ev_getR (ea_at dt_X11_law 5 rfl) fl_X11_54 sh_0 rfl ?_
  refine ev_iload_n (ea_at dt_X11_law 6 rfl) rfl ?_
  refine ev_clI (F1 := F_X8_read) (fun rY mY hY => ea_runV (As := [.int r2]) (ea_at dt_X11_law 7 rfl) ml_X11_150 mv_X8_read (ok_X8_read G r2 m1  rY mY hY) sh_48 rfl rfl rfl (Nat.le_of_ble_eq_true rfl) rfl) rfl (fun r4 m3 => ?_)
  refine ev_putI (ea_at dt_X11_law 8 rfl) fl_X11_17 fp_11_2 sh_0 rfl ?_
  refine ev_m (fun m5 => ?_)
  refine ev_aload_n (ea_at dt_X11_law 9 rfl) rfl ?_
  refine ev_getI (ea_at dt_X11_law 10 rfl) fl_X11_17 sh_0 rfl ?_
  refine ev_i (fun x6 => ?_)
  refine ev_iconst (ea_at dt_X11_law 11 rfl) ic_m1 ?_
  refine ev_icmp_eq (tgt := 35) (ea_at dt_X11_law 12 rfl) rfl (fun _ => ?_) (fun _ => ?_)
  · refine ev_aload_n (ea_at dt_X11_law 18 rfl) rfl ?_
    refine ev_getR (ea_at dt_X11_law 19 rfl) fl_X11_30 sh_0 rfl ?_
    refine ev_aload_n (ea_at dt_X11_law 20 rfl) rfl ?_
    refine ev_getR (ea_at dt_X11_law 21 rfl) fl_X11_37 sh_0 rfl ?_
    refine ev_clU (F1 := F_X7_copyFrom) (fun rY mY hY => ea_runV (As := [.ref 38]) (ea_at dt_X11_law 22 rfl) ml_X11_151 mv_X7_copyFrom (ok_X7_copyFrom G 16 38 m5 is_Law_16 is_Law_38 rY mY hY) sh_16 rfl rfl rfl (Nat.le_of_ble_eq_true rfl) rfl) rfl (fun r8 m7 => ?_)
    refine ev_aload_n (ea_at dt_X11_law 23 rfl) rfl ?_
    refine ev_clU (F1 := F_X11_forgetActs) (fun rY mY hY => ea_runV (As := []) (ea_at dt_X11_law 24 rfl) ml_X11_144 mv_X11_forgetActs (ok_X11_forgetActs G m7  rY mY hY) sh_0 rfl rfl rfl (Nat.le_of_ble_eq_true rfl) rfl) rfl (fun r10 m9 => ?_)
    refine ev_aload_n (ea_at dt_X11_law 25 rfl) rfl ?_
    refine ev_clU (F1 := F_X11_forgetFates) (fun rY mY hY => ea_runV (As := []) (ea_at dt_X11_law 26 rfl) ml_X11_147 mv_X11_forgetFates (ok_X11_forgetFates G m9  rY mY hY) sh_0 rfl rfl rfl (Nat.le_of_ble_eq_true rfl) rfl) rfl (fun r12 m11 => ?_)
    refine ev_aload_n (ea_at dt_X11_law 27 rfl) rfl ?_
    refine ev_getR (ea_at dt_X11_law 28 rfl) fl_X11_30 sh_0 rfl ?_
    refine ev_getI (ea_at dt_X11_law 29 rfl) fl_X11_154 sh_16 rfl ?_
    refine ev_i (fun x13 => ?_)
    exact ev_iret (ea_at dt_X11_law 30 rfl) rfl ⟨by decide, by decide⟩ (fun h => hR _ h)
  · exact ev_throwS (kx := 2) (j := 16) (ea_at dt_X11_law 13 rfl) (ea_at dt_X11_law 14 rfl) (ea_at dt_X11_law 15 rfl) (ea_at dt_X11_law 16 rfl) (ea_at dt_X11_law 17 rfl) rfl (by decide) rfl (by decide +kernel) ea_tw2 cl_X11_129 ini_2 ml_X11_133 rfl ⟨by decide, by decide, by decide, by decide, by decide, by decide⟩ (fun h => ⟨0, hR _ h⟩)
def F_X11_fault : ea_F := (ea_rm 8 0 0, cX11_fault, RX11, some .int, 1, [], 0, 0)
def D_X11_fault : List (Nat × Instr × Nat) := [(0, .aload_n 0, 1), (1, .getfield 17, 3), (4, .ireturn, 1)]
theorem dt_X11_fault : ∀ q ∈ D_X11_fault, decode cX11_fault q.1 = .ok q.2 := by decide +kernel
theorem mv_X11_fault : ea_MV yX11_fault (F_X11_fault) 0 := ⟨⟨List.mem_append_right _ (List.mem_of_getElem? (i := 1) (by decide +kernel)), List.mem_append_right _ (List.mem_of_getElem? (i := 488) (by decide +kernel)), ⟨by decide, by decide⟩, by decide +kernel⟩, List.mem_append_right _ (List.mem_of_getElem? (i := 486) (by decide +kernel)), List.mem_append_right _ (List.mem_of_getElem? (i := 487) (by decide +kernel))⟩
def f_X11_fault (m : ea_M) : Option (Int32 × ea_M) :=
  ea_bd (m 0 2) fun x1 =>
  some (x1, m)
set_option maxHeartbeats 300000 in
theorem ok_X11_fault (G : ea_G) (m : ea_M)  (rZ : Int32) (mZ : ea_M) (hZ : f_X11_fault m = some (rZ, mZ)) : ea_Met G yX11_fault F_X11_fault [.ref 0] m (0, rZ, mZ) := by
  refine ea_met (F := F_X11_fault) (by decide +kernel) rfl rfl (Nat.le_of_ble_eq_true rfl) (by simp only [List.mem_cons, List.not_mem_nil, or_false]; intro v hv; rcases hv with rfl <;> rfl) ((?_ : ea_E G F_X11_fault (0, rZ, mZ) 0 [some (.ref 0)] [] m 0 0 (f_X11_fault m) (fun t => t = (rZ, mZ))) (rZ, mZ) hZ rfl)
  have hR : ∀ t : Int32 × ea_M, t = (rZ, mZ) → ((0, rZ, mZ) : ea_O) = (0, t) := fun t h => by rw [h]
  unfold f_X11_fault
  refine ev_aload_n (ea_at dt_X11_fault 0 rfl) rfl ?_
  refine ev_getI (ea_at dt_X11_fault 1 rfl) fl_X11_17 sh_0 rfl ?_
  refine ev_i (fun x1 => ?_)
  exact ev_iret (ea_at dt_X11_fault 2 rfl) rfl ⟨by decide, by decide⟩ (fun h => hR _ h)
