def F_X12_span : ea_F := (ea_rm 17 0 0, cX12_span, RX12, some .int, 9, [], 0, 0)
def D_X12_span : List (Nat × Instr × Nat) := [(0, .aload_n 0, 1), (1, .iconst 0, 1), (2, .putfield 3, 3), (5, .aload_n 0, 1), (6, .aload_n 0, 1), (7, .iload_n 1, 1), (8, .invokevirtual 303, 3), (11, .ifCond .ne 11, 3), (14, .aload_n 0, 1), (15, .iload_n 2, 1), (16, .invokevirtual 303, 3), (19, .ifCond .eq 7, 3), (22, .iconst 1, 1), (23, .goto 4, 3), (26, .iconst 0, 1), (27, .iconst 1, 1), (28, .invokevirtual 265, 3), (31, .ifCond .ne 26, 3), (34, .aload_n 0, 1), (35, .iload_n 3, 1), (36, .iconst 0, 1), (37, .bipush 40, 2), (39, .invokestatic 78, 3), (42, .ifCond .ne 7, 3), (45, .iconst 1, 1), (46, .goto 4, 3), (49, .iconst 0, 1), (50, .iconst 2, 1), (51, .invokevirtual 265, 3), (54, .ifCond .eq 5, 3), (57, .iconst 0, 1), (58, .ireturn, 1), (59, .aload_n 0, 1), (60, .getfield 13, 3), (63, .bipush 12, 2), (65, .iaload, 1), (66, .istore 5, 2), (68, .iconst (-1), 1), (69, .istore 6, 2), (71, .iconst 1, 1), (72, .istore 7, 2), (74, .iload 7, 2), (76, .bipush 6, 2), (78, .if_icmp .gt 61, 3), (81, .aload_n 0, 1), (82, .getfield 13, 3), (85, .bipush 12, 2), (87, .iload 7, 2), (89, .iastore, 1), (90, .aload_n 0, 1), (91, .iload_n 1, 1), (92, .iload_n 2, 1), (93, .iload_n 3, 1), (94, .invokevirtual 455, 3), (97, .istore 8, 2), (99, .iload 6, 2), (101, .ifCond .ge 8, 3), (104, .iload 8, 2), (106, .goto 25, 3), (109, .iload 4, 2), (111, .ifCond .eq 13, 3), (114, .iload 6, 2), (116, .iload 8, 2), (118, .invokestatic 300, 3), (121, .goto 10, 3), (124, .iload 6, 2), (126, .iload 8, 2), (128, .invokestatic 295, 3), (131, .istore 6, 2), (133, .iinc 7 1, 3), (136, .goto (-62), 3), (139, .aload_n 0, 1), (140, .getfield 13, 3), (143, .bipush 12, 2), (145, .iload 5, 2), (147, .iastore, 1), (148, .iload 6, 2), (150, .ireturn, 1)]
theorem dt_X12_span : ∀ q ∈ D_X12_span, decode cX12_span q.1 = .ok q.2 := by decide +kernel
theorem mv_X12_span : ea_MV yX12_span (F_X12_span) 4 := ⟨⟨List.mem_append_right _ (List.mem_of_getElem? (i := 13) (by decide +kernel)), List.mem_append_right _ (List.mem_of_getElem? (i := 2026) (by decide +kernel)), ⟨by decide, by decide⟩, by decide +kernel⟩, List.mem_append_right _ (List.mem_of_getElem? (i := 2024) (by decide +kernel)), List.mem_append_right _ (List.mem_of_getElem? (i := 2025) (by decide +kernel))⟩
def f_X12_span_j131 (p1 : Int32) (p2 : Int32) (p3 : Int32) (p4 : Int32) (x16 : Int32) (x21 : Int32) (x22 : Int32) (m23 : ea_M) : Option ((Int32 × Int32 × ea_M) ⊕ (Int32 × ea_M)) :=
  some (.inl (x22, x21 + 1, m23))
def f_X12_span_s74 (p1 : Int32) (p2 : Int32) (p3 : Int32) (p4 : Int32) (x16 : Int32)  (s74 : Int32 × Int32 × ea_M) : Option ((Int32 × Int32 × ea_M) ⊕ (Int32 × ea_M)) :=
  if 6 < s74.2.1 then
  some (.inr (s74.1, s74.2.2))
  else
  ea_bd (ea_st s74.2.2 273 12 s74.2.1) fun m17 =>
  ea_cl (f_X12_tries p1 p2 p3 m17) fun r19 m18 =>
  if 0 ≤ s74.1 then
  if p4 = 0 then
  ea_bd (ea_min s74.1 r19) fun x20 =>
  f_X12_span_j131 p1 p2 p3 p4 x16 s74.2.1 x20 m18
  else
  ea_bd (ea_max s74.1 r19) fun x24 =>
  f_X12_span_j131 p1 p2 p3 p4 x16 s74.2.1 x24 m18
  else
  f_X12_span_j131 p1 p2 p3 p4 x16 s74.2.1 r19 m18
def f_X12_span_j50 (p1 : Int32) (p2 : Int32) (p3 : Int32) (p4 : Int32) (x12 : Int32) (m13 : ea_M) : Option (Int32 × ea_M) :=
  ea_cl (f_X12_throwsIf x12 2 m13) fun r15 m14 =>
  if r15 = 0 then
  ea_bd (m14 273 12) fun x16 =>
  (ea_loop (f_X12_span_s74 p1 p2 p3 p4 x16) ea_fuel ((-1), 1, m14)).bind (fun x74s =>
  ea_bd (ea_st x74s.2 273 12 x16) fun m25 =>
  some (x74s.1, m25))
  else
  some (0, m14)
def f_X12_span_j27 (p1 : Int32) (p2 : Int32) (p3 : Int32) (p4 : Int32) (x6 : Int32) (m7 : ea_M) : Option (Int32 × ea_M) :=
  ea_cl (f_X12_throwsIf x6 1 m7) fun r9 m8 =>
  if r9 = 0 then
  ea_cl (f_X12_in p3 0 40 m8) fun r11 m10 =>
  if r11 = 0 then
  f_X12_span_j50 p1 p2 p3 p4 1 m10
  else
  f_X12_span_j50 p1 p2 p3 p4 0 m10
  else
  some (0, m8)
def f_X12_span_j22 (p1 : Int32) (p2 : Int32) (p3 : Int32) (p4 : Int32) (m26 : ea_M) : Option (Int32 × ea_M) :=
  f_X12_span_j27 p1 p2 p3 p4 1 m26
def f_X12_span (p1 : Int32) (p2 : Int32) (p3 : Int32) (p4 : Int32) (m : ea_M) : Option (Int32 × ea_M) :=
  ea_bd (ea_st m 272 0 0) fun m1 =>
  ea_cl (f_X12_noBird p1 m1) fun r3 m2 =>
  if r3 = 0 then
  ea_cl (f_X12_noBird p2 m2) fun r5 m4 =>
  if r5 = 0 then
  f_X12_span_j27 p1 p2 p3 p4 0 m4
  else
  f_X12_span_j22 p1 p2 p3 p4 m4
  else
  f_X12_span_j22 p1 p2 p3 p4 m2
set_option maxHeartbeats 300000 in
theorem jn_X12_span_131 (G : ea_G) {res : ea_O}  (p1 : Int32) (p2 : Int32) (p3 : Int32) (p4 : Int32) (x16 : Int32) (x21 : Int32) (x22 : Int32) (m23 : ea_M)  {Φ : ((Int32 × Int32 × ea_M) ⊕ (Int32 × ea_M)) → Prop} (hC : ∀ s74 : Int32 × Int32 × ea_M, Φ (.inl s74) → ea_Ev G F_X12_span res 74 [some (.ref 272), some (.int p1), some (.int p2), some (.int p3), some (.int p4), some (.int x16), some (.int s74.1), some (.int s74.2.1), none] [] s74.2.2 0 0) (hX : ∀ x74s : Int32 × ea_M, Φ (.inr x74s) → ea_Ev G F_X12_span res 139 [some (.ref 272), none, none, none, none, some (.int x16), some (.int x74s.1), none, none] [] x74s.2 0 0) : ea_E G F_X12_span res 131 [some (.ref 272), some (.int p1), some (.int p2), some (.int p3), some (.int p4), some (.int x16), none, some (.int x21), none] [.int x22] m23 0 0 (f_X12_span_j131 p1 p2 p3 p4 x16 x21 x22 m23) Φ := by
  unfold f_X12_span_j131
  refine ev_istore (ls' := [some (.ref 272), some (.int p1), some (.int p2), some (.int p3), some (.int p4), some (.int x16), some (.int x22), some (.int x21), none]) (ea_at dt_X12_span 68 rfl) (ea_lt rfl) rfl ?_
  refine ev_iinc (ls' := [some (.ref 272), some (.int p1), some (.int p2), some (.int p3), some (.int p4), some (.int x16), some (.int x22), some (.int (x21 + 1)), none]) (ea_at dt_X12_span 69 rfl) rfl (congrArg (fun z => _ + z) ic_1) (ea_lt rfl) rfl ?_
  refine ev_goto (tgt := 74) (ea_at dt_X12_span 70 rfl) rfl ?_
  exact ev_leaf (fun h => ea_drop (l' := [some (.ref 272), some (.int p1), some (.int p2), some (.int p3), some (.int p4), some (.int x16), some (.int x22), some (.int (x21 + 1)), none]) ⟨Or.inr rfl, Or.inr rfl, Or.inr rfl, Or.inr rfl, Or.inr rfl, Or.inr rfl, Or.inr rfl, Or.inr rfl, Or.inl rfl, trivial⟩ (hC (x22, x21 + 1, m23) h))
set_option maxHeartbeats 300000 in
theorem lp_X12_span_74 (G : ea_G) {res : ea_O}  (p1 : Int32) (p2 : Int32) (p3 : Int32) (p4 : Int32) (x16 : Int32)  {Ψ : (Int32 × ea_M) → Prop} (hX : ∀ x74s : Int32 × ea_M, Ψ x74s → ea_Ev G F_X12_span res 139 [some (.ref 272), none, none, none, none, some (.int x16), some (.int x74s.1), none, none] [] x74s.2 0 0) : ∀ (f : Nat) (s74 : Int32 × Int32 × ea_M), ea_E G F_X12_span res 74 [some (.ref 272), some (.int p1), some (.int p2), some (.int p3), some (.int p4), some (.int x16), some (.int s74.1), some (.int s74.2.1), none] [] s74.2.2 0 0 (ea_loop (f_X12_span_s74 p1 p2 p3 p4 x16) f s74) Ψ := by
  refine ev_loop (G := G) (F := F_X12_span) (res := res) (pc := 74) (st := []) (k := 0) (n := 0) (step := (f_X12_span_s74 p1 p2 p3 p4 x16)) (Ψ := Ψ) (fun (s74 : Int32 × Int32 × ea_M) => [some (.ref 272), some (.int p1), some (.int p2), some (.int p3), some (.int p4), some (.int x16), some (.int s74.1), some (.int s74.2.1), none]) (fun (s74 : Int32 × Int32 × ea_M) => s74.2.2) (fun s74 => ?_)
  have hC : ∀ s74 : Int32 × Int32 × ea_M, (Sum.elim (fun s74 : Int32 × Int32 × ea_M => ea_Ev G F_X12_span res 74 [some (.ref 272), some (.int p1), some (.int p2), some (.int p3), some (.int p4), some (.int x16), some (.int s74.1), some (.int s74.2.1), none] [] s74.2.2 0 0) Ψ) (.inl s74) → ea_Ev G F_X12_span res 74 [some (.ref 272), some (.int p1), some (.int p2), some (.int p3), some (.int p4), some (.int x16), some (.int s74.1), some (.int s74.2.1), none] [] s74.2.2 0 0 := fun _ h => h
  have hX : ∀ x74s : Int32 × ea_M, (Sum.elim (fun s74 : Int32 × Int32 × ea_M => ea_Ev G F_X12_span res 74 [some (.ref 272), some (.int p1), some (.int p2), some (.int p3), some (.int p4), some (.int x16), some (.int s74.1), some (.int s74.2.1), none] [] s74.2.2 0 0) Ψ) (.inr x74s) → ea_Ev G F_X12_span res 139 [some (.ref 272), none, none, none, none, some (.int x16), some (.int x74s.1), none, none] [] x74s.2 0 0 := hX
  unfold f_X12_span_s74
  refine ev_iload (ea_at dt_X12_span 41 rfl) rfl ?_
  refine ev_bipush (ea_at dt_X12_span 42 rfl) bp_6 ?_
  refine ev_icmp_gt (tgt := 139) (ea_at dt_X12_span 43 rfl) rfl (fun _ => ?_) (fun _ => ?_)
  · exact ev_leaf (fun h => ea_drop (l' := [some (.ref 272), none, none, none, none, some (.int x16), some (.int s74.1), none, none]) ⟨Or.inr rfl, Or.inl rfl, Or.inl rfl, Or.inl rfl, Or.inl rfl, Or.inr rfl, Or.inr rfl, Or.inl rfl, Or.inl rfl, trivial⟩ (hX (s74.1, s74.2.2) h))
  · refine ev_aload_n (ea_at dt_X12_span 44 rfl) rfl ?_
    refine ev_getR (ea_at dt_X12_span 45 rfl) fl_X12_13 sh_272 rfl ?_
    refine ev_bipush (ea_at dt_X12_span 46 rfl) bp_12 ?_
    refine ev_iload (ea_at dt_X12_span 47 rfl) rfl ?_
    refine ev_iastoreC (j := 12) (ea_at dt_X12_span 48 rfl) sh_273 (by decide) (by decide) (by decide) (by decide) ?_
    refine ev_m (fun m17 => ?_)
    refine ev_aload_n (ea_at dt_X12_span 49 rfl) rfl ?_
    refine ev_iload_n (ea_at dt_X12_span 50 rfl) rfl ?_
    refine ev_iload_n (ea_at dt_X12_span 51 rfl) rfl ?_
    refine ev_iload_n (ea_at dt_X12_span 52 rfl) rfl ?_
    refine ev_clI (F1 := F_X12_tries) (fun rY mY hY => ea_runV (As := [.int p1, .int p2, .int p3]) (ea_at dt_X12_span 53 rfl) ml_X12_455 mv_X12_tries (ok_X12_tries G p1 p2 p3 m17  rY mY hY) sh_272 rfl rfl rfl (Nat.le_of_ble_eq_true rfl) rfl) rfl (fun r19 m18 => ?_)
    refine ev_istore (ls' := [some (.ref 272), some (.int p1), some (.int p2), some (.int p3), some (.int p4), some (.int x16), some (.int s74.1), some (.int s74.2.1), some (.int r19)]) (ea_at dt_X12_span 54 rfl) (ea_lt rfl) rfl ?_
    refine ev_iload (ea_at dt_X12_span 55 rfl) rfl ?_
    refine ev_if_ge (tgt := 109) (ea_at dt_X12_span 56 rfl) rfl (fun _ => ?_) (fun _ => ?_)
    · refine ev_iload (ea_at dt_X12_span 59 rfl) rfl ?_
      refine ev_if_eq (tgt := 124) (ea_at dt_X12_span 60 rfl) rfl (fun _ => ?_) (fun _ => ?_)
      · refine ev_iload (ea_at dt_X12_span 65 rfl) rfl ?_
        refine ev_iload (ea_at dt_X12_span 66 rfl) rfl ?_
        refine ev_mmin (ea_at dt_X12_span 67 rfl) ml_X12_295 ea_maW_min ⟨by decide, Nat.le_of_ble_eq_true rfl, by decide, by decide⟩ ?_
        refine ev_i (fun x20 => ?_)
        exact ev_drop (l' := [some (.ref 272), some (.int p1), some (.int p2), some (.int p3), some (.int p4), some (.int x16), none, some (.int s74.2.1), none]) ⟨Or.inr rfl, Or.inr rfl, Or.inr rfl, Or.inr rfl, Or.inr rfl, Or.inr rfl, Or.inl rfl, Or.inr rfl, Or.inl rfl, trivial⟩ (jn_X12_span_131 G p1 p2 p3 p4 x16 s74.2.1 x20 m18  hC hX)
      · refine ev_iload (ea_at dt_X12_span 61 rfl) rfl ?_
        refine ev_iload (ea_at dt_X12_span 62 rfl) rfl ?_
        refine ev_mmax (ea_at dt_X12_span 63 rfl) ml_X12_300 ea_maW_max ⟨by decide, Nat.le_of_ble_eq_true rfl, by decide, by decide⟩ ?_
        refine ev_i (fun x24 => ?_)
        refine ev_goto (tgt := 131) (ea_at dt_X12_span 64 rfl) rfl ?_
        exact ev_drop (l' := [some (.ref 272), some (.int p1), some (.int p2), some (.int p3), some (.int p4), some (.int x16), none, some (.int s74.2.1), none]) ⟨Or.inr rfl, Or.inr rfl, Or.inr rfl, Or.inr rfl, Or.inr rfl, Or.inr rfl, Or.inl rfl, Or.inr rfl, Or.inl rfl, trivial⟩ (jn_X12_span_131 G p1 p2 p3 p4 x16 s74.2.1 x24 m18  hC hX)
    · refine ev_iload (ea_at dt_X12_span 57 rfl) rfl ?_
      refine ev_goto (tgt := 131) (ea_at dt_X12_span 58 rfl) rfl ?_
      exact ev_drop (l' := [some (.ref 272), some (.int p1), some (.int p2), some (.int p3), some (.int p4), some (.int x16), none, some (.int s74.2.1), none]) ⟨Or.inr rfl, Or.inr rfl, Or.inr rfl, Or.inr rfl, Or.inr rfl, Or.inr rfl, Or.inl rfl, Or.inr rfl, Or.inl rfl, trivial⟩ (jn_X12_span_131 G p1 p2 p3 p4 x16 s74.2.1 r19 m18  hC hX)
set_option maxHeartbeats 300000 in
theorem jn_X12_span_50 (G : ea_G) {res : ea_O}  (p1 : Int32) (p2 : Int32) (p3 : Int32) (p4 : Int32) (x12 : Int32) (m13 : ea_M)  {Φ : (Int32 × ea_M) → Prop} (hR : ∀ t : Int32 × ea_M, Φ t → res = (0, t)) : ea_E G F_X12_span res 50 [some (.ref 272), some (.int p1), some (.int p2), some (.int p3), some (.int p4), none, none, none, none] [.int x12, .ref 272] m13 0 0 (f_X12_span_j50 p1 p2 p3 p4 x12 m13) Φ := by
  unfold f_X12_span_j50
  refine ev_iconst (ea_at dt_X12_span 27 rfl) ic_2 ?_
  refine ev_clI (F1 := F_X12_throwsIf) (fun rY mY hY => ea_runV (As := [.int x12, .int 2]) (ea_at dt_X12_span 28 rfl) ml_X12_265 mv_X12_throwsIf (ok_X12_throwsIf G x12 2 m13  rY mY hY) sh_272 rfl rfl rfl (Nat.le_of_ble_eq_true rfl) rfl) rfl (fun r15 m14 => ?_)
  refine ev_if_eq (tgt := 59) (ea_at dt_X12_span 29 rfl) rfl (fun _ => ?_) (fun _ => ?_)
  · refine ev_aload_n (ea_at dt_X12_span 32 rfl) rfl ?_
    refine ev_getR (ea_at dt_X12_span 33 rfl) fl_X12_13 sh_272 rfl ?_
    refine ev_bipush (ea_at dt_X12_span 34 rfl) bp_12 ?_
    refine ev_ialoadC (j := 12) (ea_at dt_X12_span 35 rfl) sh_273 (by decide) (by decide) (by decide) (by decide) ?_
    refine ev_i (fun x16 => ?_)
    refine ev_istore (ls' := [some (.ref 272), some (.int p1), some (.int p2), some (.int p3), some (.int p4), some (.int x16), none, none, none]) (ea_at dt_X12_span 36 rfl) (ea_lt rfl) rfl ?_
    refine ev_iconst (ea_at dt_X12_span 37 rfl) ic_m1 ?_
    refine ev_istore (ls' := [some (.ref 272), some (.int p1), some (.int p2), some (.int p3), some (.int p4), some (.int x16), some (.int (-1)), none, none]) (ea_at dt_X12_span 38 rfl) (ea_lt rfl) rfl ?_
    refine ev_iconst (ea_at dt_X12_span 39 rfl) ic_1 ?_
    refine ev_istore (ls' := [some (.ref 272), some (.int p1), some (.int p2), some (.int p3), some (.int p4), some (.int x16), some (.int (-1)), some (.int 1), none]) (ea_at dt_X12_span 40 rfl) (ea_lt rfl) rfl ?_
    refine ev_drop (l' := [some (.ref 272), some (.int p1), some (.int p2), some (.int p3), some (.int p4), some (.int x16), some (.int (-1)), some (.int 1), none]) ⟨Or.inr rfl, Or.inr rfl, Or.inr rfl, Or.inr rfl, Or.inr rfl, Or.inr rfl, Or.inr rfl, Or.inr rfl, Or.inl rfl, trivial⟩ ?_
    refine ev_bind (lp_X12_span_74 G p1 p2 p3 p4 x16   (fun x74s h => ?_) ea_fuel ((-1), 1, m14))
    obtain ⟨t1, e1, q1⟩ := h
    refine (?_ : ea_E G F_X12_span res 139 [some (.ref 272), none, none, none, none, some (.int x16), some (.int x74s.1), none, none] [] x74s.2 0 0 _ Φ) t1 e1 q1
    refine ev_aload_n (ea_at dt_X12_span 71 rfl) rfl ?_
    refine ev_getR (ea_at dt_X12_span 72 rfl) fl_X12_13 sh_272 rfl ?_
    refine ev_bipush (ea_at dt_X12_span 73 rfl) bp_12 ?_
    refine ev_iload (ea_at dt_X12_span 74 rfl) rfl ?_
    refine ev_iastoreC (j := 12) (ea_at dt_X12_span 75 rfl) sh_273 (by decide) (by decide) (by decide) (by decide) ?_
    refine ev_m (fun m25 => ?_)
    refine ev_iload (ea_at dt_X12_span 76 rfl) rfl ?_
    exact ev_iret (ea_at dt_X12_span 77 rfl) rfl ⟨by decide, by decide⟩ (fun h => hR _ h)
  · refine ev_iconst (ea_at dt_X12_span 30 rfl) ic_0 ?_
    exact ev_iret (ea_at dt_X12_span 31 rfl) rfl ⟨by decide, by decide⟩ (fun h => hR _ h)
set_option maxHeartbeats 300000 in
theorem jn_X12_span_27 (G : ea_G) {res : ea_O}  (p1 : Int32) (p2 : Int32) (p3 : Int32) (p4 : Int32) (x6 : Int32) (m7 : ea_M)  {Φ : (Int32 × ea_M) → Prop} (hR : ∀ t : Int32 × ea_M, Φ t → res = (0, t)) : ea_E G F_X12_span res 27 [some (.ref 272), some (.int p1), some (.int p2), some (.int p3), some (.int p4), none, none, none, none] [.int x6, .ref 272] m7 0 0 (f_X12_span_j27 p1 p2 p3 p4 x6 m7) Φ := by
  unfold f_X12_span_j27
  refine ev_iconst (ea_at dt_X12_span 15 rfl) ic_1 ?_
  refine ev_clI (F1 := F_X12_throwsIf) (fun rY mY hY => ea_runV (As := [.int x6, .int 1]) (ea_at dt_X12_span 16 rfl) ml_X12_265 mv_X12_throwsIf (ok_X12_throwsIf G x6 1 m7  rY mY hY) sh_272 rfl rfl rfl (Nat.le_of_ble_eq_true rfl) rfl) rfl (fun r9 m8 => ?_)
  refine ev_if_ne (tgt := 57) (ea_at dt_X12_span 17 rfl) rfl (fun _ => ?_) (fun _ => ?_)
  · refine ev_aload_n (ea_at dt_X12_span 18 rfl) rfl ?_
    refine ev_iload_n (ea_at dt_X12_span 19 rfl) rfl ?_
    refine ev_iconst (ea_at dt_X12_span 20 rfl) ic_0 ?_
    refine ev_bipush (ea_at dt_X12_span 21 rfl) bp_40 ?_
    refine ev_clI (F1 := F_X12_in) (fun rY mY hY => ea_runS (As := [.int p3, .int 0, .int 40]) (ea_at dt_X12_span 22 rfl) ml_X12_78 mv_X12_in (ok_X12_in G p3 0 40 m8  rY mY hY) rfl rfl (Nat.le_of_ble_eq_true rfl) rfl) rfl (fun r11 m10 => ?_)
    refine ev_if_ne (tgt := 49) (ea_at dt_X12_span 23 rfl) rfl (fun _ => ?_) (fun _ => ?_)
    · refine ev_iconst (ea_at dt_X12_span 24 rfl) ic_1 ?_
      refine ev_goto (tgt := 50) (ea_at dt_X12_span 25 rfl) rfl ?_
      exact ev_drop (l' := [some (.ref 272), some (.int p1), some (.int p2), some (.int p3), some (.int p4), none, none, none, none]) ⟨Or.inr rfl, Or.inr rfl, Or.inr rfl, Or.inr rfl, Or.inr rfl, Or.inl rfl, Or.inl rfl, Or.inl rfl, Or.inl rfl, trivial⟩ (jn_X12_span_50 G p1 p2 p3 p4 1 m10  hR)
    · refine ev_iconst (ea_at dt_X12_span 26 rfl) ic_0 ?_
      exact ev_drop (l' := [some (.ref 272), some (.int p1), some (.int p2), some (.int p3), some (.int p4), none, none, none, none]) ⟨Or.inr rfl, Or.inr rfl, Or.inr rfl, Or.inr rfl, Or.inr rfl, Or.inl rfl, Or.inl rfl, Or.inl rfl, Or.inl rfl, trivial⟩ (jn_X12_span_50 G p1 p2 p3 p4 0 m10  hR)
  · refine ev_iconst (ea_at dt_X12_span 30 rfl) ic_0 ?_
    exact ev_iret (ea_at dt_X12_span 31 rfl) rfl ⟨by decide, by decide⟩ (fun h => hR _ h)
set_option maxHeartbeats 300000 in
theorem jn_X12_span_22 (G : ea_G) {res : ea_O}  (p1 : Int32) (p2 : Int32) (p3 : Int32) (p4 : Int32) (m26 : ea_M)  {Φ : (Int32 × ea_M) → Prop} (hR : ∀ t : Int32 × ea_M, Φ t → res = (0, t)) : ea_E G F_X12_span res 22 [some (.ref 272), some (.int p1), some (.int p2), some (.int p3), some (.int p4), none, none, none, none] [.ref 272] m26 0 0 (f_X12_span_j22 p1 p2 p3 p4 m26) Φ := by
  unfold f_X12_span_j22
  refine ev_iconst (ea_at dt_X12_span 12 rfl) ic_1 ?_
  refine ev_goto (tgt := 27) (ea_at dt_X12_span 13 rfl) rfl ?_
  exact ev_drop (l' := [some (.ref 272), some (.int p1), some (.int p2), some (.int p3), some (.int p4), none, none, none, none]) ⟨Or.inr rfl, Or.inr rfl, Or.inr rfl, Or.inr rfl, Or.inr rfl, Or.inl rfl, Or.inl rfl, Or.inl rfl, Or.inl rfl, trivial⟩ (jn_X12_span_27 G p1 p2 p3 p4 1 m26  hR)
set_option maxHeartbeats 300000 in
theorem ok_X12_span (G : ea_G) (p1 : Int32) (p2 : Int32) (p3 : Int32) (p4 : Int32) (m : ea_M)  (rZ : Int32) (mZ : ea_M) (hZ : f_X12_span p1 p2 p3 p4 m = some (rZ, mZ)) : ea_Met G yX12_span F_X12_span [.ref 272, .int p1, .int p2, .int p3, .int p4] m (0, rZ, mZ) := by
  refine ea_met (F := F_X12_span) (by decide +kernel) rfl rfl (Nat.le_of_ble_eq_true rfl) (by simp only [List.mem_cons, List.not_mem_nil, or_false]; intro v hv; rcases hv with rfl | rfl | rfl | rfl | rfl <;> rfl) ((?_ : ea_E G F_X12_span (0, rZ, mZ) 0 [some (.ref 272), some (.int p1), some (.int p2), some (.int p3), some (.int p4), none, none, none, none] [] m 0 0 (f_X12_span p1 p2 p3 p4 m) (fun t => t = (rZ, mZ))) (rZ, mZ) hZ rfl)
  have hR : ∀ t : Int32 × ea_M, t = (rZ, mZ) → ((0, rZ, mZ) : ea_O) = (0, t) := fun t h => by rw [h]
  unfold f_X12_span
  refine ev_aload_n (ea_at dt_X12_span 0 rfl) rfl ?_
  refine ev_iconst (ea_at dt_X12_span 1 rfl) ic_0 ?_
  refine ev_putI (ea_at dt_X12_span 2 rfl) fl_X12_3 fp_12_0 sh_272 rfl ?_
  refine ev_m (fun m1 => ?_)
  refine ev_aload_n (ea_at dt_X12_span 3 rfl) rfl ?_
  refine ev_aload_n (ea_at dt_X12_span 4 rfl) rfl ?_
  refine ev_iload_n (ea_at dt_X12_span 5 rfl) rfl ?_
  refine ev_clI (F1 := F_X12_noBird) (fun rY mY hY => ea_runV (As := [.int p1]) (ea_at dt_X12_span 6 rfl) ml_X12_303 mv_X12_noBird (ok_X12_noBird G p1 m1  rY mY hY) sh_272 rfl rfl rfl (Nat.le_of_ble_eq_true rfl) rfl) rfl (fun r3 m2 => ?_)
  refine ev_if_ne (tgt := 22) (ea_at dt_X12_span 7 rfl) rfl (fun _ => ?_) (fun _ => ?_)
  · refine ev_aload_n (ea_at dt_X12_span 8 rfl) rfl ?_
    refine ev_iload_n (ea_at dt_X12_span 9 rfl) rfl ?_
    refine ev_clI (F1 := F_X12_noBird) (fun rY mY hY => ea_runV (As := [.int p2]) (ea_at dt_X12_span 10 rfl) ml_X12_303 mv_X12_noBird (ok_X12_noBird G p2 m2  rY mY hY) sh_272 rfl rfl rfl (Nat.le_of_ble_eq_true rfl) rfl) rfl (fun r5 m4 => ?_)
    refine ev_if_eq (tgt := 26) (ea_at dt_X12_span 11 rfl) rfl (fun _ => ?_) (fun _ => ?_)
    · refine ev_iconst (ea_at dt_X12_span 14 rfl) ic_0 ?_
      exact ev_drop (l' := [some (.ref 272), some (.int p1), some (.int p2), some (.int p3), some (.int p4), none, none, none, none]) ⟨Or.inr rfl, Or.inr rfl, Or.inr rfl, Or.inr rfl, Or.inr rfl, Or.inl rfl, Or.inl rfl, Or.inl rfl, Or.inl rfl, trivial⟩ (jn_X12_span_27 G p1 p2 p3 p4 0 m4  hR)
    · exact ev_drop (l' := [some (.ref 272), some (.int p1), some (.int p2), some (.int p3), some (.int p4), none, none, none, none]) ⟨Or.inr rfl, Or.inr rfl, Or.inr rfl, Or.inr rfl, Or.inr rfl, Or.inl rfl, Or.inl rfl, Or.inl rfl, Or.inl rfl, trivial⟩ (jn_X12_span_22 G p1 p2 p3 p4 m4  hR)
  · exact ev_drop (l' := [some (.ref 272), some (.int p1), some (.int p2), some (.int p3), some (.int p4), none, none, none, none]) ⟨Or.inr rfl, Or.inr rfl, Or.inr rfl, Or.inr rfl, Or.inr rfl, Or.inl rfl, Or.inl rfl, Or.inl rfl, Or.inl rfl, trivial⟩ (jn_X12_span_22 G p1 p2 p3 p4 m2  hR)
def F_X12_ofLog : ea_F := (ea_rm 8 0 0, cX12_ofLog, RX12, some .int, 3, [], 0, 0)
def D_X12_ofLog : List (Nat × Instr × Nat) := [(0, .aload_n 0, 1), (1, .getfield 13, 3), (4, .bipush 122, 2), (6, .bipush 6, 2), (8, .iload_n 1, 1), (9, .imul, 1), (10, .iadd, 1), (11, .iload_n 2, 1), (12, .iadd, 1), (13, .iaload, 1), (14, .ireturn, 1)]
theorem dt_X12_ofLog : ∀ q ∈ D_X12_ofLog, decode cX12_ofLog q.1 = .ok q.2 := by decide +kernel
theorem mv_X12_ofLog : ea_MV yX12_ofLog (F_X12_ofLog) 2 := ⟨⟨List.mem_append_right _ (List.mem_of_getElem? (i := 13) (by decide +kernel)), List.mem_append_right _ (List.mem_of_getElem? (i := 2034) (by decide +kernel)), ⟨by decide, by decide⟩, by decide +kernel⟩, List.mem_append_right _ (List.mem_of_getElem? (i := 2033) (by decide +kernel)), List.mem_append_left _ (List.mem_of_getElem? (i := 119) (by decide +kernel))⟩
def f_X12_ofLog (p1 : Int32) (p2 : Int32) (m : ea_M) : Option (Int32 × ea_M) :=
  ea_bd (122 + (6 * p1)) fun x1 =>
  ea_g (x1 + p2) 2180 (ea_bd (m 273 (Int32.toNatClampNeg (x1 + p2))) fun x2 =>
  some (x2, m))
set_option maxHeartbeats 300000 in
theorem ok_X12_ofLog (G : ea_G) (p1 : Int32) (p2 : Int32) (m : ea_M)  (rZ : Int32) (mZ : ea_M) (hZ : f_X12_ofLog p1 p2 m = some (rZ, mZ)) : ea_Met G yX12_ofLog F_X12_ofLog [.ref 272, .int p1, .int p2] m (0, rZ, mZ) := by
  refine ea_met (F := F_X12_ofLog) (by decide +kernel) rfl rfl (Nat.le_of_ble_eq_true rfl) (by simp only [List.mem_cons, List.not_mem_nil, or_false]; intro v hv; rcases hv with rfl | rfl | rfl <;> rfl) ((?_ : ea_E G F_X12_ofLog (0, rZ, mZ) 0 [some (.ref 272), some (.int p1), some (.int p2)] [] m 0 0 (f_X12_ofLog p1 p2 m) (fun t => t = (rZ, mZ))) (rZ, mZ) hZ rfl)
  have hR : ∀ t : Int32 × ea_M, t = (rZ, mZ) → ((0, rZ, mZ) : ea_O) = (0, t) := fun t h => by rw [h]
  unfold f_X12_ofLog
  refine ev_aload_n (ea_at dt_X12_ofLog 0 rfl) rfl ?_
  refine ev_getR (ea_at dt_X12_ofLog 1 rfl) fl_X12_13 sh_272 rfl ?_
  refine ev_bipush (ea_at dt_X12_ofLog 2 rfl) bp_122 ?_
  refine ev_bipush (ea_at dt_X12_ofLog 3 rfl) bp_6 ?_
  refine ev_iload_n (ea_at dt_X12_ofLog 4 rfl) rfl ?_
  refine ev_imul (ea_at dt_X12_ofLog 5 rfl) ?_
  refine ev_iadd (ea_at dt_X12_ofLog 6 rfl) ?_
  refine ev_i (fun x1 => ?_)
  refine ev_iload_n (ea_at dt_X12_ofLog 7 rfl) rfl ?_
  refine ev_iadd (ea_at dt_X12_ofLog 8 rfl) ?_
  refine ev_iaload (ea_at dt_X12_ofLog 9 rfl) sh_273 (by decide) ?_
  refine ev_i (fun x2 => ?_)
  exact ev_iret (ea_at dt_X12_ofLog 10 rfl) rfl ⟨by decide, by decide⟩ (fun h => hR _ h)
def F_X12_led : ea_F := (ea_rm 10 0 0, cX12_led, RX12, some .int, 8, [], 0, 0)
def D_X12_led : List (Nat × Instr × Nat) := [(0, .aload_n 0, 1), (1, .iconst 0, 1), (2, .putfield 3, 3), (5, .aload_n 0, 1), (6, .aload_n 0, 1), (7, .iload_n 1, 1), (8, .invokevirtual 303, 3), (11, .iconst 1, 1), (12, .invokevirtual 265, 3), (15, .ifCond .eq 5, 3), (18, .iconst 0, 1), (19, .ireturn, 1), (20, .iconst 0, 1), (21, .istore_n 3, 1), (22, .iconst 0, 1), (23, .istore 4, 2), (25, .iload 4, 2), (27, .aload_n 0, 1), (28, .getfield 13, 3), (31, .bipush 11, 2), (33, .iaload, 1), (34, .if_icmp .ge 119, 3), (37, .aload_n 0, 1), (38, .iload 4, 2), (40, .iconst 2, 1), (41, .invokevirtual 459, 3), (44, .iload_n 1, 1), (45, .if_icmp .ne 7, 3), (48, .iconst 1, 1), (49, .goto 4, 3), (52, .iconst 0, 1), (53, .istore 5, 2), (55, .aload_n 0, 1), (56, .iload 4, 2), (58, .iconst 3, 1), (59, .invokevirtual 459, 3), (62, .iload_n 1, 1), (63, .if_icmp .ne 7, 3), (66, .iconst 1, 1), (67, .goto 4, 3), (70, .iconst 0, 1), (71, .istore 6, 2), (73, .iload 5, 2), (75, .ifCond .eq 14, 3), (78, .aload_n 0, 1), (79, .iload 4, 2), (81, .iconst 4, 1), (82, .invokevirtual 459, 3), (85, .iconst 1, 1), (86, .if_icmp .eq 19, 3), (89, .iload 6, 2), (91, .ifCond .eq 18, 3), (94, .aload_n 0, 1), (95, .iload 4, 2), (97, .iconst 4, 1), (98, .invokevirtual 459, 3), (101, .iconst 2, 1), (102, .if_icmp .ne 7, 3), (105, .iconst 1, 1), (106, .goto 4, 3), (109, .iconst 0, 1), (110, .istore 7, 2), (112, .iload_n 3, 1), (113, .iload_n 2, 1), (114, .ifCond .eq 16, 3), (117, .iload 7, 2), (119, .ifCond .eq 7, 3), (122, .iconst 1, 1), (123, .goto 22, 3), (126, .iconst 0, 1), (127, .goto 18, 3), (130, .iload 5, 2), (132, .ifCond .ne 8, 3), (135, .iload 6, 2), (137, .ifCond .eq 7, 3), (140, .iconst 1, 1), (141, .goto 4, 3), (144, .iconst 0, 1), (145, .iadd, 1), (146, .istore_n 3, 1), (147, .iinc 4 1, 3), (150, .goto (-125), 3), (153, .iload_n 3, 1), (154, .ireturn, 1)]
theorem dt_X12_led : ∀ q ∈ D_X12_led, decode cX12_led q.1 = .ok q.2 := by decide +kernel
theorem mv_X12_led : ea_MV yX12_led (F_X12_led) 2 := ⟨⟨List.mem_append_right _ (List.mem_of_getElem? (i := 13) (by decide +kernel)), List.mem_append_right _ (List.mem_of_getElem? (i := 2030) (by decide +kernel)), ⟨by decide, by decide⟩, by decide +kernel⟩, List.mem_append_right _ (List.mem_of_getElem? (i := 2028) (by decide +kernel)), List.mem_append_right _ (List.mem_of_getElem? (i := 2029) (by decide +kernel))⟩
def f_X12_led_j145 (p1 : Int32) (p2 : Int32) (x36 : Int32) (x37 : Int32) (x38 : Int32) (m39 : ea_M) : Option ((Int32 × Int32 × ea_M) ⊕ (Int32 × ea_M)) :=
  ea_bd (x37 + x38) fun x40 =>
  some (.inl (x40, x36 + 1, m39))
def f_X12_led_j140 (p1 : Int32) (p2 : Int32) (x41 : Int32) (x42 : Int32) (m43 : ea_M) : Option ((Int32 × Int32 × ea_M) ⊕ (Int32 × ea_M)) :=
  f_X12_led_j145 p1 p2 x41 x42 1 m43
def f_X12_led_j110 (p1 : Int32) (p2 : Int32) (x30 : Int32) (x31 : Int32) (x32 : Int32) (x33 : Int32) (x34 : Int32) (m35 : ea_M) : Option ((Int32 × Int32 × ea_M) ⊕ (Int32 × ea_M)) :=
  if p2 = 0 then
  if x32 = 0 then
  if x33 = 0 then
  f_X12_led_j145 p1 p2 x31 x30 0 m35
  else
  f_X12_led_j140 p1 p2 x31 x30 m35
  else
  f_X12_led_j140 p1 p2 x31 x30 m35
  else
  if x34 = 0 then
  f_X12_led_j145 p1 p2 x31 x30 0 m35
  else
  f_X12_led_j145 p1 p2 x31 x30 1 m35
def f_X12_led_j109 (p1 : Int32) (p2 : Int32) (x25 : Int32) (x26 : Int32) (x27 : Int32) (x28 : Int32) (m29 : ea_M) : Option ((Int32 × Int32 × ea_M) ⊕ (Int32 × ea_M)) :=
  f_X12_led_j110 p1 p2 x25 x26 x27 x28 0 m29
def f_X12_led_j105 (p1 : Int32) (p2 : Int32) (x46 : Int32) (x47 : Int32) (x48 : Int32) (x49 : Int32) (m50 : ea_M) : Option ((Int32 × Int32 × ea_M) ⊕ (Int32 × ea_M)) :=
  f_X12_led_j110 p1 p2 x46 x47 x48 x49 1 m50
def f_X12_led_j89 (p1 : Int32) (p2 : Int32) (x20 : Int32) (x21 : Int32) (x22 : Int32) (x23 : Int32) (m24 : ea_M) : Option ((Int32 × Int32 × ea_M) ⊕ (Int32 × ea_M)) :=
  if x23 = 0 then
  f_X12_led_j109 p1 p2 x20 x21 x22 x23 m24
  else
  ea_cl (f_X12_ofLog x21 4 m24) fun r45 m44 =>
  if r45 = 2 then
  f_X12_led_j105 p1 p2 x20 x21 x22 x23 m44
  else
  f_X12_led_j109 p1 p2 x20 x21 x22 x23 m44
def f_X12_led_j71 (p1 : Int32) (p2 : Int32) (x15 : Int32) (x16 : Int32) (x17 : Int32) (x18 : Int32) (m19 : ea_M) : Option ((Int32 × Int32 × ea_M) ⊕ (Int32 × ea_M)) :=
  if x17 = 0 then
  f_X12_led_j89 p1 p2 x15 x16 x17 x18 m19
  else
  ea_cl (f_X12_ofLog x16 4 m19) fun r52 m51 =>
  if r52 = 1 then
  f_X12_led_j105 p1 p2 x15 x16 x17 x18 m51
  else
  f_X12_led_j89 p1 p2 x15 x16 x17 x18 m51
def f_X12_led_j53 (p1 : Int32) (p2 : Int32) (x9 : Int32) (x10 : Int32) (x11 : Int32) (m12 : ea_M) : Option ((Int32 × Int32 × ea_M) ⊕ (Int32 × ea_M)) :=
  ea_cl (f_X12_ofLog x10 3 m12) fun r14 m13 =>
  if r14 = p1 then
  f_X12_led_j71 p1 p2 x9 x10 x11 1 m13
  else
  f_X12_led_j71 p1 p2 x9 x10 x11 0 m13
def f_X12_led_s25 (p1 : Int32) (p2 : Int32)  (s25 : Int32 × Int32 × ea_M) : Option ((Int32 × Int32 × ea_M) ⊕ (Int32 × ea_M)) :=
  ea_bd (s25.2.2 273 11) fun x6 =>
  if x6 ≤ s25.2.1 then
  some (.inr (s25.1, s25.2.2))
  else
  ea_cl (f_X12_ofLog s25.2.1 2 s25.2.2) fun r8 m7 =>
  if r8 = p1 then
  f_X12_led_j53 p1 p2 s25.1 s25.2.1 1 m7
  else
  f_X12_led_j53 p1 p2 s25.1 s25.2.1 0 m7
def f_X12_led (p1 : Int32) (p2 : Int32) (m : ea_M) : Option (Int32 × ea_M) :=
  ea_bd (ea_st m 272 0 0) fun m1 =>
  ea_cl (f_X12_noBird p1 m1) fun r3 m2 =>
  ea_cl (f_X12_throwsIf r3 1 m2) fun r5 m4 =>
  if r5 = 0 then
  (ea_loop (f_X12_led_s25 p1 p2) ea_fuel (0, 0, m4)).bind (fun x25s =>
  some (x25s.1, x25s.2))
  else
  some (0, m4)
set_option maxHeartbeats 300000 in
theorem jn_X12_led_145 (G : ea_G) {res : ea_O}  (p1 : Int32) (p2 : Int32) (x36 : Int32) (x37 : Int32) (x38 : Int32) (m39 : ea_M)  {Φ : ((Int32 × Int32 × ea_M) ⊕ (Int32 × ea_M)) → Prop} (hC : ∀ s25 : Int32 × Int32 × ea_M, Φ (.inl s25) → ea_Ev G F_X12_led res 25 [some (.ref 272), some (.int p1), some (.int p2), some (.int s25.1), some (.int s25.2.1), none, none, none] [] s25.2.2 0 0) (hX : ∀ x25s : Int32 × ea_M, Φ (.inr x25s) → ea_Ev G F_X12_led res 153 [none, none, none, some (.int x25s.1), none, none, none, none] [] x25s.2 0 0) : ea_E G F_X12_led res 145 [some (.ref 272), some (.int p1), some (.int p2), none, some (.int x36), none, none, none] [.int x38, .int x37] m39 0 0 (f_X12_led_j145 p1 p2 x36 x37 x38 m39) Φ := by
  unfold f_X12_led_j145
  refine ev_iadd (ea_at dt_X12_led 78 rfl) ?_
  refine ev_i (fun x40 => ?_)
  refine ev_istore_n (ls' := [some (.ref 272), some (.int p1), some (.int p2), some (.int x40), some (.int x36), none, none, none]) (ea_at dt_X12_led 79 rfl) (ea_lt rfl) rfl ?_
  refine ev_iinc (ls' := [some (.ref 272), some (.int p1), some (.int p2), some (.int x40), some (.int (x36 + 1)), none, none, none]) (ea_at dt_X12_led 80 rfl) rfl (congrArg (fun z => _ + z) ic_1) (ea_lt rfl) rfl ?_
  refine ev_goto (tgt := 25) (ea_at dt_X12_led 81 rfl) rfl ?_
  exact ev_leaf (fun h => ea_drop (l' := [some (.ref 272), some (.int p1), some (.int p2), some (.int x40), some (.int (x36 + 1)), none, none, none]) ⟨Or.inr rfl, Or.inr rfl, Or.inr rfl, Or.inr rfl, Or.inr rfl, Or.inl rfl, Or.inl rfl, Or.inl rfl, trivial⟩ (hC (x40, x36 + 1, m39) h))
set_option maxHeartbeats 300000 in
theorem jn_X12_led_140 (G : ea_G) {res : ea_O}  (p1 : Int32) (p2 : Int32) (x41 : Int32) (x42 : Int32) (m43 : ea_M)  {Φ : ((Int32 × Int32 × ea_M) ⊕ (Int32 × ea_M)) → Prop} (hC : ∀ s25 : Int32 × Int32 × ea_M, Φ (.inl s25) → ea_Ev G F_X12_led res 25 [some (.ref 272), some (.int p1), some (.int p2), some (.int s25.1), some (.int s25.2.1), none, none, none] [] s25.2.2 0 0) (hX : ∀ x25s : Int32 × ea_M, Φ (.inr x25s) → ea_Ev G F_X12_led res 153 [none, none, none, some (.int x25s.1), none, none, none, none] [] x25s.2 0 0) : ea_E G F_X12_led res 140 [some (.ref 272), some (.int p1), some (.int p2), none, some (.int x41), none, none, none] [.int x42] m43 0 0 (f_X12_led_j140 p1 p2 x41 x42 m43) Φ := by
  unfold f_X12_led_j140
  refine ev_iconst (ea_at dt_X12_led 75 rfl) ic_1 ?_
  refine ev_goto (tgt := 145) (ea_at dt_X12_led 76 rfl) rfl ?_
  exact ev_drop (l' := [some (.ref 272), some (.int p1), some (.int p2), none, some (.int x41), none, none, none]) ⟨Or.inr rfl, Or.inr rfl, Or.inr rfl, Or.inl rfl, Or.inr rfl, Or.inl rfl, Or.inl rfl, Or.inl rfl, trivial⟩ (jn_X12_led_145 G p1 p2 x41 x42 1 m43  hC hX)
set_option maxHeartbeats 300000 in
theorem jn_X12_led_110 (G : ea_G) {res : ea_O}  (p1 : Int32) (p2 : Int32) (x30 : Int32) (x31 : Int32) (x32 : Int32) (x33 : Int32) (x34 : Int32) (m35 : ea_M)  {Φ : ((Int32 × Int32 × ea_M) ⊕ (Int32 × ea_M)) → Prop} (hC : ∀ s25 : Int32 × Int32 × ea_M, Φ (.inl s25) → ea_Ev G F_X12_led res 25 [some (.ref 272), some (.int p1), some (.int p2), some (.int s25.1), some (.int s25.2.1), none, none, none] [] s25.2.2 0 0) (hX : ∀ x25s : Int32 × ea_M, Φ (.inr x25s) → ea_Ev G F_X12_led res 153 [none, none, none, some (.int x25s.1), none, none, none, none] [] x25s.2 0 0) : ea_E G F_X12_led res 110 [some (.ref 272), some (.int p1), some (.int p2), some (.int x30), some (.int x31), some (.int x32), some (.int x33), none] [.int x34] m35 0 0 (f_X12_led_j110 p1 p2 x30 x31 x32 x33 x34 m35) Φ := by
  unfold f_X12_led_j110
  refine ev_istore (ls' := [some (.ref 272), some (.int p1), some (.int p2), some (.int x30), some (.int x31), some (.int x32), some (.int x33), some (.int x34)]) (ea_at dt_X12_led 61 rfl) (ea_lt rfl) rfl ?_
  refine ev_iload_n (ea_at dt_X12_led 62 rfl) rfl ?_
  refine ev_iload_n (ea_at dt_X12_led 63 rfl) rfl ?_
  refine ev_if_eq (tgt := 130) (ea_at dt_X12_led 64 rfl) rfl (fun _ => ?_) (fun _ => ?_)
  · refine ev_iload (ea_at dt_X12_led 71 rfl) rfl ?_
    refine ev_if_ne (tgt := 140) (ea_at dt_X12_led 72 rfl) rfl (fun _ => ?_) (fun _ => ?_)
    · refine ev_iload (ea_at dt_X12_led 73 rfl) rfl ?_
      refine ev_if_eq (tgt := 144) (ea_at dt_X12_led 74 rfl) rfl (fun _ => ?_) (fun _ => ?_)
      · refine ev_iconst (ea_at dt_X12_led 77 rfl) ic_0 ?_
        exact ev_drop (l' := [some (.ref 272), some (.int p1), some (.int p2), none, some (.int x31), none, none, none]) ⟨Or.inr rfl, Or.inr rfl, Or.inr rfl, Or.inl rfl, Or.inr rfl, Or.inl rfl, Or.inl rfl, Or.inl rfl, trivial⟩ (jn_X12_led_145 G p1 p2 x31 x30 0 m35  hC hX)
      · exact ev_drop (l' := [some (.ref 272), some (.int p1), some (.int p2), none, some (.int x31), none, none, none]) ⟨Or.inr rfl, Or.inr rfl, Or.inr rfl, Or.inl rfl, Or.inr rfl, Or.inl rfl, Or.inl rfl, Or.inl rfl, trivial⟩ (jn_X12_led_140 G p1 p2 x31 x30 m35  hC hX)
    · exact ev_drop (l' := [some (.ref 272), some (.int p1), some (.int p2), none, some (.int x31), none, none, none]) ⟨Or.inr rfl, Or.inr rfl, Or.inr rfl, Or.inl rfl, Or.inr rfl, Or.inl rfl, Or.inl rfl, Or.inl rfl, trivial⟩ (jn_X12_led_140 G p1 p2 x31 x30 m35  hC hX)
  · refine ev_iload (ea_at dt_X12_led 65 rfl) rfl ?_
    refine ev_if_eq (tgt := 126) (ea_at dt_X12_led 66 rfl) rfl (fun _ => ?_) (fun _ => ?_)
    · refine ev_iconst (ea_at dt_X12_led 69 rfl) ic_0 ?_
      refine ev_goto (tgt := 145) (ea_at dt_X12_led 70 rfl) rfl ?_
      exact ev_drop (l' := [some (.ref 272), some (.int p1), some (.int p2), none, some (.int x31), none, none, none]) ⟨Or.inr rfl, Or.inr rfl, Or.inr rfl, Or.inl rfl, Or.inr rfl, Or.inl rfl, Or.inl rfl, Or.inl rfl, trivial⟩ (jn_X12_led_145 G p1 p2 x31 x30 0 m35  hC hX)
    · refine ev_iconst (ea_at dt_X12_led 67 rfl) ic_1 ?_
      refine ev_goto (tgt := 145) (ea_at dt_X12_led 68 rfl) rfl ?_
      exact ev_drop (l' := [some (.ref 272), some (.int p1), some (.int p2), none, some (.int x31), none, none, none]) ⟨Or.inr rfl, Or.inr rfl, Or.inr rfl, Or.inl rfl, Or.inr rfl, Or.inl rfl, Or.inl rfl, Or.inl rfl, trivial⟩ (jn_X12_led_145 G p1 p2 x31 x30 1 m35  hC hX)
set_option maxHeartbeats 300000 in
theorem jn_X12_led_109 (G : ea_G) {res : ea_O}  (p1 : Int32) (p2 : Int32) (x25 : Int32) (x26 : Int32) (x27 : Int32) (x28 : Int32) (m29 : ea_M)  {Φ : ((Int32 × Int32 × ea_M) ⊕ (Int32 × ea_M)) → Prop} (hC : ∀ s25 : Int32 × Int32 × ea_M, Φ (.inl s25) → ea_Ev G F_X12_led res 25 [some (.ref 272), some (.int p1), some (.int p2), some (.int s25.1), some (.int s25.2.1), none, none, none] [] s25.2.2 0 0) (hX : ∀ x25s : Int32 × ea_M, Φ (.inr x25s) → ea_Ev G F_X12_led res 153 [none, none, none, some (.int x25s.1), none, none, none, none] [] x25s.2 0 0) : ea_E G F_X12_led res 109 [some (.ref 272), some (.int p1), some (.int p2), some (.int x25), some (.int x26), some (.int x27), some (.int x28), none] [] m29 0 0 (f_X12_led_j109 p1 p2 x25 x26 x27 x28 m29) Φ := by
  unfold f_X12_led_j109
  refine ev_iconst (ea_at dt_X12_led 60 rfl) ic_0 ?_
  exact ev_drop (l' := [some (.ref 272), some (.int p1), some (.int p2), some (.int x25), some (.int x26), some (.int x27), some (.int x28), none]) ⟨Or.inr rfl, Or.inr rfl, Or.inr rfl, Or.inr rfl, Or.inr rfl, Or.inr rfl, Or.inr rfl, Or.inl rfl, trivial⟩ (jn_X12_led_110 G p1 p2 x25 x26 x27 x28 0 m29  hC hX)
set_option maxHeartbeats 300000 in
theorem jn_X12_led_105 (G : ea_G) {res : ea_O}  (p1 : Int32) (p2 : Int32) (x46 : Int32) (x47 : Int32) (x48 : Int32) (x49 : Int32) (m50 : ea_M)  {Φ : ((Int32 × Int32 × ea_M) ⊕ (Int32 × ea_M)) → Prop} (hC : ∀ s25 : Int32 × Int32 × ea_M, Φ (.inl s25) → ea_Ev G F_X12_led res 25 [some (.ref 272), some (.int p1), some (.int p2), some (.int s25.1), some (.int s25.2.1), none, none, none] [] s25.2.2 0 0) (hX : ∀ x25s : Int32 × ea_M, Φ (.inr x25s) → ea_Ev G F_X12_led res 153 [none, none, none, some (.int x25s.1), none, none, none, none] [] x25s.2 0 0) : ea_E G F_X12_led res 105 [some (.ref 272), some (.int p1), some (.int p2), some (.int x46), some (.int x47), some (.int x48), some (.int x49), none] [] m50 0 0 (f_X12_led_j105 p1 p2 x46 x47 x48 x49 m50) Φ := by
  unfold f_X12_led_j105
  refine ev_iconst (ea_at dt_X12_led 58 rfl) ic_1 ?_
  refine ev_goto (tgt := 110) (ea_at dt_X12_led 59 rfl) rfl ?_
  exact ev_drop (l' := [some (.ref 272), some (.int p1), some (.int p2), some (.int x46), some (.int x47), some (.int x48), some (.int x49), none]) ⟨Or.inr rfl, Or.inr rfl, Or.inr rfl, Or.inr rfl, Or.inr rfl, Or.inr rfl, Or.inr rfl, Or.inl rfl, trivial⟩ (jn_X12_led_110 G p1 p2 x46 x47 x48 x49 1 m50  hC hX)
set_option maxHeartbeats 300000 in
theorem jn_X12_led_89 (G : ea_G) {res : ea_O}  (p1 : Int32) (p2 : Int32) (x20 : Int32) (x21 : Int32) (x22 : Int32) (x23 : Int32) (m24 : ea_M)  {Φ : ((Int32 × Int32 × ea_M) ⊕ (Int32 × ea_M)) → Prop} (hC : ∀ s25 : Int32 × Int32 × ea_M, Φ (.inl s25) → ea_Ev G F_X12_led res 25 [some (.ref 272), some (.int p1), some (.int p2), some (.int s25.1), some (.int s25.2.1), none, none, none] [] s25.2.2 0 0) (hX : ∀ x25s : Int32 × ea_M, Φ (.inr x25s) → ea_Ev G F_X12_led res 153 [none, none, none, some (.int x25s.1), none, none, none, none] [] x25s.2 0 0) : ea_E G F_X12_led res 89 [some (.ref 272), some (.int p1), some (.int p2), some (.int x20), some (.int x21), some (.int x22), some (.int x23), none] [] m24 0 0 (f_X12_led_j89 p1 p2 x20 x21 x22 x23 m24) Φ := by
  unfold f_X12_led_j89
  refine ev_iload (ea_at dt_X12_led 50 rfl) rfl ?_
  refine ev_if_eq (tgt := 109) (ea_at dt_X12_led 51 rfl) rfl (fun _ => ?_) (fun _ => ?_)
  · exact ev_drop (l' := [some (.ref 272), some (.int p1), some (.int p2), some (.int x20), some (.int x21), some (.int x22), some (.int x23), none]) ⟨Or.inr rfl, Or.inr rfl, Or.inr rfl, Or.inr rfl, Or.inr rfl, Or.inr rfl, Or.inr rfl, Or.inl rfl, trivial⟩ (jn_X12_led_109 G p1 p2 x20 x21 x22 x23 m24  hC hX)
  · refine ev_aload_n (ea_at dt_X12_led 52 rfl) rfl ?_
    refine ev_iload (ea_at dt_X12_led 53 rfl) rfl ?_
    refine ev_iconst (ea_at dt_X12_led 54 rfl) ic_4 ?_
    refine ev_clI (F1 := F_X12_ofLog) (fun rY mY hY => ea_runV (As := [.int x21, .int 4]) (ea_at dt_X12_led 55 rfl) ml_X12_459 mv_X12_ofLog (ok_X12_ofLog G x21 4 m24  rY mY hY) sh_272 rfl rfl rfl (Nat.le_of_ble_eq_true rfl) rfl) rfl (fun r45 m44 => ?_)
    refine ev_iconst (ea_at dt_X12_led 56 rfl) ic_2 ?_
    refine ev_icmp_ne (tgt := 109) (ea_at dt_X12_led 57 rfl) rfl (fun _ => ?_) (fun _ => ?_)
    · exact ev_drop (l' := [some (.ref 272), some (.int p1), some (.int p2), some (.int x20), some (.int x21), some (.int x22), some (.int x23), none]) ⟨Or.inr rfl, Or.inr rfl, Or.inr rfl, Or.inr rfl, Or.inr rfl, Or.inr rfl, Or.inr rfl, Or.inl rfl, trivial⟩ (jn_X12_led_105 G p1 p2 x20 x21 x22 x23 m44  hC hX)
    · exact ev_drop (l' := [some (.ref 272), some (.int p1), some (.int p2), some (.int x20), some (.int x21), some (.int x22), some (.int x23), none]) ⟨Or.inr rfl, Or.inr rfl, Or.inr rfl, Or.inr rfl, Or.inr rfl, Or.inr rfl, Or.inr rfl, Or.inl rfl, trivial⟩ (jn_X12_led_109 G p1 p2 x20 x21 x22 x23 m44  hC hX)
set_option maxHeartbeats 300000 in
theorem jn_X12_led_71 (G : ea_G) {res : ea_O}  (p1 : Int32) (p2 : Int32) (x15 : Int32) (x16 : Int32) (x17 : Int32) (x18 : Int32) (m19 : ea_M)  {Φ : ((Int32 × Int32 × ea_M) ⊕ (Int32 × ea_M)) → Prop} (hC : ∀ s25 : Int32 × Int32 × ea_M, Φ (.inl s25) → ea_Ev G F_X12_led res 25 [some (.ref 272), some (.int p1), some (.int p2), some (.int s25.1), some (.int s25.2.1), none, none, none] [] s25.2.2 0 0) (hX : ∀ x25s : Int32 × ea_M, Φ (.inr x25s) → ea_Ev G F_X12_led res 153 [none, none, none, some (.int x25s.1), none, none, none, none] [] x25s.2 0 0) : ea_E G F_X12_led res 71 [some (.ref 272), some (.int p1), some (.int p2), some (.int x15), some (.int x16), some (.int x17), none, none] [.int x18] m19 0 0 (f_X12_led_j71 p1 p2 x15 x16 x17 x18 m19) Φ := by
  unfold f_X12_led_j71
  refine ev_istore (ls' := [some (.ref 272), some (.int p1), some (.int p2), some (.int x15), some (.int x16), some (.int x17), some (.int x18), none]) (ea_at dt_X12_led 41 rfl) (ea_lt rfl) rfl ?_
  refine ev_iload (ea_at dt_X12_led 42 rfl) rfl ?_
  refine ev_if_eq (tgt := 89) (ea_at dt_X12_led 43 rfl) rfl (fun _ => ?_) (fun _ => ?_)
  · exact ev_drop (l' := [some (.ref 272), some (.int p1), some (.int p2), some (.int x15), some (.int x16), some (.int x17), some (.int x18), none]) ⟨Or.inr rfl, Or.inr rfl, Or.inr rfl, Or.inr rfl, Or.inr rfl, Or.inr rfl, Or.inr rfl, Or.inl rfl, trivial⟩ (jn_X12_led_89 G p1 p2 x15 x16 x17 x18 m19  hC hX)
  · refine ev_aload_n (ea_at dt_X12_led 44 rfl) rfl ?_
    refine ev_iload (ea_at dt_X12_led 45 rfl) rfl ?_
    refine ev_iconst (ea_at dt_X12_led 46 rfl) ic_4 ?_
    refine ev_clI (F1 := F_X12_ofLog) (fun rY mY hY => ea_runV (As := [.int x16, .int 4]) (ea_at dt_X12_led 47 rfl) ml_X12_459 mv_X12_ofLog (ok_X12_ofLog G x16 4 m19  rY mY hY) sh_272 rfl rfl rfl (Nat.le_of_ble_eq_true rfl) rfl) rfl (fun r52 m51 => ?_)
    refine ev_iconst (ea_at dt_X12_led 48 rfl) ic_1 ?_
    refine ev_icmp_eq (tgt := 105) (ea_at dt_X12_led 49 rfl) rfl (fun _ => ?_) (fun _ => ?_)
    · exact ev_drop (l' := [some (.ref 272), some (.int p1), some (.int p2), some (.int x15), some (.int x16), some (.int x17), some (.int x18), none]) ⟨Or.inr rfl, Or.inr rfl, Or.inr rfl, Or.inr rfl, Or.inr rfl, Or.inr rfl, Or.inr rfl, Or.inl rfl, trivial⟩ (jn_X12_led_105 G p1 p2 x15 x16 x17 x18 m51  hC hX)
    · exact ev_drop (l' := [some (.ref 272), some (.int p1), some (.int p2), some (.int x15), some (.int x16), some (.int x17), some (.int x18), none]) ⟨Or.inr rfl, Or.inr rfl, Or.inr rfl, Or.inr rfl, Or.inr rfl, Or.inr rfl, Or.inr rfl, Or.inl rfl, trivial⟩ (jn_X12_led_89 G p1 p2 x15 x16 x17 x18 m51  hC hX)
set_option maxHeartbeats 300000 in
theorem jn_X12_led_53 (G : ea_G) {res : ea_O}  (p1 : Int32) (p2 : Int32) (x9 : Int32) (x10 : Int32) (x11 : Int32) (m12 : ea_M)  {Φ : ((Int32 × Int32 × ea_M) ⊕ (Int32 × ea_M)) → Prop} (hC : ∀ s25 : Int32 × Int32 × ea_M, Φ (.inl s25) → ea_Ev G F_X12_led res 25 [some (.ref 272), some (.int p1), some (.int p2), some (.int s25.1), some (.int s25.2.1), none, none, none] [] s25.2.2 0 0) (hX : ∀ x25s : Int32 × ea_M, Φ (.inr x25s) → ea_Ev G F_X12_led res 153 [none, none, none, some (.int x25s.1), none, none, none, none] [] x25s.2 0 0) : ea_E G F_X12_led res 53 [some (.ref 272), some (.int p1), some (.int p2), some (.int x9), some (.int x10), none, none, none] [.int x11] m12 0 0 (f_X12_led_j53 p1 p2 x9 x10 x11 m12) Φ := by
  unfold f_X12_led_j53
  refine ev_istore (ls' := [some (.ref 272), some (.int p1), some (.int p2), some (.int x9), some (.int x10), some (.int x11), none, none]) (ea_at dt_X12_led 31 rfl) (ea_lt rfl) rfl ?_
  refine ev_aload_n (ea_at dt_X12_led 32 rfl) rfl ?_
  refine ev_iload (ea_at dt_X12_led 33 rfl) rfl ?_
  refine ev_iconst (ea_at dt_X12_led 34 rfl) ic_3 ?_
  refine ev_clI (F1 := F_X12_ofLog) (fun rY mY hY => ea_runV (As := [.int x10, .int 3]) (ea_at dt_X12_led 35 rfl) ml_X12_459 mv_X12_ofLog (ok_X12_ofLog G x10 3 m12  rY mY hY) sh_272 rfl rfl rfl (Nat.le_of_ble_eq_true rfl) rfl) rfl (fun r14 m13 => ?_)
  refine ev_iload_n (ea_at dt_X12_led 36 rfl) rfl ?_
  refine ev_icmp_ne (tgt := 70) (ea_at dt_X12_led 37 rfl) rfl (fun _ => ?_) (fun _ => ?_)
  · refine ev_iconst (ea_at dt_X12_led 38 rfl) ic_1 ?_
    refine ev_goto (tgt := 71) (ea_at dt_X12_led 39 rfl) rfl ?_
    exact ev_drop (l' := [some (.ref 272), some (.int p1), some (.int p2), some (.int x9), some (.int x10), some (.int x11), none, none]) ⟨Or.inr rfl, Or.inr rfl, Or.inr rfl, Or.inr rfl, Or.inr rfl, Or.inr rfl, Or.inl rfl, Or.inl rfl, trivial⟩ (jn_X12_led_71 G p1 p2 x9 x10 x11 1 m13  hC hX)
  · refine ev_iconst (ea_at dt_X12_led 40 rfl) ic_0 ?_
    exact ev_drop (l' := [some (.ref 272), some (.int p1), some (.int p2), some (.int x9), some (.int x10), some (.int x11), none, none]) ⟨Or.inr rfl, Or.inr rfl, Or.inr rfl, Or.inr rfl, Or.inr rfl, Or.inr rfl, Or.inl rfl, Or.inl rfl, trivial⟩ (jn_X12_led_71 G p1 p2 x9 x10 x11 0 m13  hC hX)
set_option maxHeartbeats 300000 in
theorem lp_X12_led_25 (G : ea_G) {res : ea_O}  (p1 : Int32) (p2 : Int32)  {Ψ : (Int32 × ea_M) → Prop} (hX : ∀ x25s : Int32 × ea_M, Ψ x25s → ea_Ev G F_X12_led res 153 [none, none, none, some (.int x25s.1), none, none, none, none] [] x25s.2 0 0) : ∀ (f : Nat) (s25 : Int32 × Int32 × ea_M), ea_E G F_X12_led res 25 [some (.ref 272), some (.int p1), some (.int p2), some (.int s25.1), some (.int s25.2.1), none, none, none] [] s25.2.2 0 0 (ea_loop (f_X12_led_s25 p1 p2) f s25) Ψ := by
  refine ev_loop (G := G) (F := F_X12_led) (res := res) (pc := 25) (st := []) (k := 0) (n := 0) (step := (f_X12_led_s25 p1 p2)) (Ψ := Ψ) (fun (s25 : Int32 × Int32 × ea_M) => [some (.ref 272), some (.int p1), some (.int p2), some (.int s25.1), some (.int s25.2.1), none, none, none]) (fun (s25 : Int32 × Int32 × ea_M) => s25.2.2) (fun s25 => ?_)
  have hC : ∀ s25 : Int32 × Int32 × ea_M, (Sum.elim (fun s25 : Int32 × Int32 × ea_M => ea_Ev G F_X12_led res 25 [some (.ref 272), some (.int p1), some (.int p2), some (.int s25.1), some (.int s25.2.1), none, none, none] [] s25.2.2 0 0) Ψ) (.inl s25) → ea_Ev G F_X12_led res 25 [some (.ref 272), some (.int p1), some (.int p2), some (.int s25.1), some (.int s25.2.1), none, none, none] [] s25.2.2 0 0 := fun _ h => h
  have hX : ∀ x25s : Int32 × ea_M, (Sum.elim (fun s25 : Int32 × Int32 × ea_M => ea_Ev G F_X12_led res 25 [some (.ref 272), some (.int p1), some (.int p2), some (.int s25.1), some (.int s25.2.1), none, none, none] [] s25.2.2 0 0) Ψ) (.inr x25s) → ea_Ev G F_X12_led res 153 [none, none, none, some (.int x25s.1), none, none, none, none] [] x25s.2 0 0 := hX
  unfold f_X12_led_s25
  refine ev_iload (ea_at dt_X12_led 16 rfl) rfl ?_
  refine ev_aload_n (ea_at dt_X12_led 17 rfl) rfl ?_
  refine ev_getR (ea_at dt_X12_led 18 rfl) fl_X12_13 sh_272 rfl ?_
  refine ev_bipush (ea_at dt_X12_led 19 rfl) bp_11 ?_
  refine ev_ialoadC (j := 11) (ea_at dt_X12_led 20 rfl) sh_273 (by decide) (by decide) (by decide) (by decide) ?_
  refine ev_i (fun x6 => ?_)
  refine ev_icmp_ge (tgt := 153) (ea_at dt_X12_led 21 rfl) rfl (fun _ => ?_) (fun _ => ?_)
  · exact ev_leaf (fun h => ea_drop (l' := [none, none, none, some (.int s25.1), none, none, none, none]) ⟨Or.inl rfl, Or.inl rfl, Or.inl rfl, Or.inr rfl, Or.inl rfl, Or.inl rfl, Or.inl rfl, Or.inl rfl, trivial⟩ (hX (s25.1, s25.2.2) h))
  · refine ev_aload_n (ea_at dt_X12_led 22 rfl) rfl ?_
    refine ev_iload (ea_at dt_X12_led 23 rfl) rfl ?_
    refine ev_iconst (ea_at dt_X12_led 24 rfl) ic_2 ?_
    refine ev_clI (F1 := F_X12_ofLog) (fun rY mY hY => ea_runV (As := [.int s25.2.1, .int 2]) (ea_at dt_X12_led 25 rfl) ml_X12_459 mv_X12_ofLog (ok_X12_ofLog G s25.2.1 2 s25.2.2  rY mY hY) sh_272 rfl rfl rfl (Nat.le_of_ble_eq_true rfl) rfl) rfl (fun r8 m7 => ?_)
    refine ev_iload_n (ea_at dt_X12_led 26 rfl) rfl ?_
    refine ev_icmp_ne (tgt := 52) (ea_at dt_X12_led 27 rfl) rfl (fun _ => ?_) (fun _ => ?_)
    · refine ev_iconst (ea_at dt_X12_led 28 rfl) ic_1 ?_
      refine ev_goto (tgt := 53) (ea_at dt_X12_led 29 rfl) rfl ?_
      exact ev_drop (l' := [some (.ref 272), some (.int p1), some (.int p2), some (.int s25.1), some (.int s25.2.1), none, none, none]) ⟨Or.inr rfl, Or.inr rfl, Or.inr rfl, Or.inr rfl, Or.inr rfl, Or.inl rfl, Or.inl rfl, Or.inl rfl, trivial⟩ (jn_X12_led_53 G p1 p2 s25.1 s25.2.1 1 m7  hC hX)
    · refine ev_iconst (ea_at dt_X12_led 30 rfl) ic_0 ?_
      exact ev_drop (l' := [some (.ref 272), some (.int p1), some (.int p2), some (.int s25.1), some (.int s25.2.1), none, none, none]) ⟨Or.inr rfl, Or.inr rfl, Or.inr rfl, Or.inr rfl, Or.inr rfl, Or.inl rfl, Or.inl rfl, Or.inl rfl, trivial⟩ (jn_X12_led_53 G p1 p2 s25.1 s25.2.1 0 m7  hC hX)
set_option maxHeartbeats 300000 in
theorem ok_X12_led (G : ea_G) (p1 : Int32) (p2 : Int32) (m : ea_M)  (rZ : Int32) (mZ : ea_M) (hZ : f_X12_led p1 p2 m = some (rZ, mZ)) : ea_Met G yX12_led F_X12_led [.ref 272, .int p1, .int p2] m (0, rZ, mZ) := by
  refine ea_met (F := F_X12_led) (by decide +kernel) rfl rfl (Nat.le_of_ble_eq_true rfl) (by simp only [List.mem_cons, List.not_mem_nil, or_false]; intro v hv; rcases hv with rfl | rfl | rfl <;> rfl) ((?_ : ea_E G F_X12_led (0, rZ, mZ) 0 [some (.ref 272), some (.int p1), some (.int p2), none, none, none, none, none] [] m 0 0 (f_X12_led p1 p2 m) (fun t => t = (rZ, mZ))) (rZ, mZ) hZ rfl)
  have hR : ∀ t : Int32 × ea_M, t = (rZ, mZ) → ((0, rZ, mZ) : ea_O) = (0, t) := fun t h => by rw [h]
  unfold f_X12_led
  refine ev_aload_n (ea_at dt_X12_led 0 rfl) rfl ?_
  refine ev_iconst (ea_at dt_X12_led 1 rfl) ic_0 ?_
  refine ev_putI (ea_at dt_X12_led 2 rfl) fl_X12_3 fp_12_0 sh_272 rfl ?_
  refine ev_m (fun m1 => ?_)
  refine ev_aload_n (ea_at dt_X12_led 3 rfl) rfl ?_
  refine ev_aload_n (ea_at dt_X12_led 4 rfl) rfl ?_
  refine ev_iload_n (ea_at dt_X12_led 5 rfl) rfl ?_
  refine ev_clI (F1 := F_X12_noBird) (fun rY mY hY => ea_runV (As := [.int p1]) (ea_at dt_X12_led 6 rfl) ml_X12_303 mv_X12_noBird (ok_X12_noBird G p1 m1  rY mY hY) sh_272 rfl rfl rfl (Nat.le_of_ble_eq_true rfl) rfl) rfl (fun r3 m2 => ?_)
  refine ev_iconst (ea_at dt_X12_led 7 rfl) ic_1 ?_
  refine ev_clI (F1 := F_X12_throwsIf) (fun rY mY hY => ea_runV (As := [.int r3, .int 1]) (ea_at dt_X12_led 8 rfl) ml_X12_265 mv_X12_throwsIf (ok_X12_throwsIf G r3 1 m2  rY mY hY) sh_272 rfl rfl rfl (Nat.le_of_ble_eq_true rfl) rfl) rfl (fun r5 m4 => ?_)
  refine ev_if_eq (tgt := 20) (ea_at dt_X12_led 9 rfl) rfl (fun _ => ?_) (fun _ => ?_)
  · refine ev_iconst (ea_at dt_X12_led 12 rfl) ic_0 ?_
    refine ev_istore_n (ls' := [some (.ref 272), some (.int p1), some (.int p2), some (.int 0), none, none, none, none]) (ea_at dt_X12_led 13 rfl) (ea_lt rfl) rfl ?_
    refine ev_iconst (ea_at dt_X12_led 14 rfl) ic_0 ?_
    refine ev_istore (ls' := [some (.ref 272), some (.int p1), some (.int p2), some (.int 0), some (.int 0), none, none, none]) (ea_at dt_X12_led 15 rfl) (ea_lt rfl) rfl ?_
    refine ev_drop (l' := [some (.ref 272), some (.int p1), some (.int p2), some (.int 0), some (.int 0), none, none, none]) ⟨Or.inr rfl, Or.inr rfl, Or.inr rfl, Or.inr rfl, Or.inr rfl, Or.inl rfl, Or.inl rfl, Or.inl rfl, trivial⟩ ?_
    refine ev_bind (lp_X12_led_25 G p1 p2   (fun x25s h => ?_) ea_fuel (0, 0, m4))
    obtain ⟨t1, e1, q1⟩ := h
    refine (?_ : ea_E G F_X12_led (0, rZ, mZ) 153 [none, none, none, some (.int x25s.1), none, none, none, none] [] x25s.2 0 0 _ (fun t => t = (rZ, mZ))) t1 e1 q1
    refine ev_iload_n (ea_at dt_X12_led 82 rfl) rfl ?_
    exact ev_iret (ea_at dt_X12_led 83 rfl) rfl ⟨by decide, by decide⟩ (fun h => hR _ h)
  · refine ev_iconst (ea_at dt_X12_led 10 rfl) ic_0 ?_
    exact ev_iret (ea_at dt_X12_led 11 rfl) rfl ⟨by decide, by decide⟩ (fun h => hR _ h)
def F_X12_log : ea_F := (ea_rm 9 0 0, cX12_log, RX12, some .int, 3, [], 0, 0)
def D_X12_log : List (Nat × Instr × Nat) := [(0, .aload_n 0, 1), (1, .iconst 0, 1), (2, .putfield 3, 3), (5, .aload_n 0, 1), (6, .iload_n 2, 1), (7, .iconst 0, 1), (8, .iconst 5, 1), (9, .invokestatic 78, 3), (12, .ifCond .ne 7, 3), (15, .iconst 1, 1), (16, .goto 4, 3), (19, .iconst 0, 1), (20, .iconst 1, 1), (21, .invokevirtual 265, 3), (24, .ifCond .eq 5, 3), (27, .iconst 0, 1), (28, .ireturn, 1), (29, .iload_n 1, 1), (30, .iconst 0, 1), (31, .aload_n 0, 1), (32, .getfield 13, 3), (35, .bipush 11, 2), (37, .iaload, 1), (38, .iconst 1, 1), (39, .isub, 1), (40, .invokestatic 78, 3), (43, .ifCond .eq 12, 3), (46, .aload_n 0, 1), (47, .iload_n 1, 1), (48, .iload_n 2, 1), (49, .invokevirtual 459, 3), (52, .goto 4, 3), (55, .iconst (-1), 1), (56, .ireturn, 1)]
theorem dt_X12_log : ∀ q ∈ D_X12_log, decode cX12_log q.1 = .ok q.2 := by decide +kernel
theorem mv_X12_log : ea_MV yX12_log (F_X12_log) 2 := ⟨⟨List.mem_append_right _ (List.mem_of_getElem? (i := 13) (by decide +kernel)), List.mem_append_right _ (List.mem_of_getElem? (i := 2038) (by decide +kernel)), ⟨by decide, by decide⟩, by decide +kernel⟩, List.mem_append_right _ (List.mem_of_getElem? (i := 2036) (by decide +kernel)), List.mem_append_right _ (List.mem_of_getElem? (i := 2037) (by decide +kernel))⟩
def f_X12_log_j20 (p1 : Int32) (p2 : Int32) (x4 : Int32) (m5 : ea_M) : Option (Int32 × ea_M) :=
  ea_cl (f_X12_throwsIf x4 1 m5) fun r7 m6 =>
  if r7 = 0 then
  ea_bd (m6 273 11) fun x8 =>
  ea_cl (f_X12_in p1 0 (x8 - 1) m6) fun r10 m9 =>
  if r10 = 0 then
  some ((-1), m9)
  else
  ea_cl (f_X12_ofLog p1 p2 m9) fun r12 m11 =>
  some (r12, m11)
  else
  some (0, m6)
def f_X12_log (p1 : Int32) (p2 : Int32) (m : ea_M) : Option (Int32 × ea_M) :=
  ea_bd (ea_st m 272 0 0) fun m1 =>
  ea_cl (f_X12_in p2 0 5 m1) fun r3 m2 =>
  if r3 = 0 then
  f_X12_log_j20 p1 p2 1 m2
  else
  f_X12_log_j20 p1 p2 0 m2
set_option maxHeartbeats 300000 in
theorem jn_X12_log_20 (G : ea_G) {res : ea_O}  (p1 : Int32) (p2 : Int32) (x4 : Int32) (m5 : ea_M)  {Φ : (Int32 × ea_M) → Prop} (hR : ∀ t : Int32 × ea_M, Φ t → res = (0, t)) : ea_E G F_X12_log res 20 [some (.ref 272), some (.int p1), some (.int p2)] [.int x4, .ref 272] m5 0 0 (f_X12_log_j20 p1 p2 x4 m5) Φ := by
  unfold f_X12_log_j20
  refine ev_iconst (ea_at dt_X12_log 12 rfl) ic_1 ?_
  refine ev_clI (F1 := F_X12_throwsIf) (fun rY mY hY => ea_runV (As := [.int x4, .int 1]) (ea_at dt_X12_log 13 rfl) ml_X12_265 mv_X12_throwsIf (ok_X12_throwsIf G x4 1 m5  rY mY hY) sh_272 rfl rfl rfl (Nat.le_of_ble_eq_true rfl) rfl) rfl (fun r7 m6 => ?_)
  refine ev_if_eq (tgt := 29) (ea_at dt_X12_log 14 rfl) rfl (fun _ => ?_) (fun _ => ?_)
  · refine ev_iload_n (ea_at dt_X12_log 17 rfl) rfl ?_
    refine ev_iconst (ea_at dt_X12_log 18 rfl) ic_0 ?_
    refine ev_aload_n (ea_at dt_X12_log 19 rfl) rfl ?_
    refine ev_getR (ea_at dt_X12_log 20 rfl) fl_X12_13 sh_272 rfl ?_
    refine ev_bipush (ea_at dt_X12_log 21 rfl) bp_11 ?_
    refine ev_ialoadC (j := 11) (ea_at dt_X12_log 22 rfl) sh_273 (by decide) (by decide) (by decide) (by decide) ?_
    refine ev_i (fun x8 => ?_)
    refine ev_iconst (ea_at dt_X12_log 23 rfl) ic_1 ?_
    refine ev_isub (ea_at dt_X12_log 24 rfl) ?_
    refine ev_clI (F1 := F_X12_in) (fun rY mY hY => ea_runS (As := [.int p1, .int 0, .int (x8 - 1)]) (ea_at dt_X12_log 25 rfl) ml_X12_78 mv_X12_in (ok_X12_in G p1 0 (x8 - 1) m6  rY mY hY) rfl rfl (Nat.le_of_ble_eq_true rfl) rfl) rfl (fun r10 m9 => ?_)
    refine ev_if_eq (tgt := 55) (ea_at dt_X12_log 26 rfl) rfl (fun _ => ?_) (fun _ => ?_)
    · refine ev_iconst (ea_at dt_X12_log 32 rfl) ic_m1 ?_
      exact ev_iret (ea_at dt_X12_log 33 rfl) rfl ⟨by decide, by decide⟩ (fun h => hR _ h)
    · refine ev_aload_n (ea_at dt_X12_log 27 rfl) rfl ?_
      refine ev_iload_n (ea_at dt_X12_log 28 rfl) rfl ?_
      refine ev_iload_n (ea_at dt_X12_log 29 rfl) rfl ?_
      refine ev_clI (F1 := F_X12_ofLog) (fun rY mY hY => ea_runV (As := [.int p1, .int p2]) (ea_at dt_X12_log 30 rfl) ml_X12_459 mv_X12_ofLog (ok_X12_ofLog G p1 p2 m9  rY mY hY) sh_272 rfl rfl rfl (Nat.le_of_ble_eq_true rfl) rfl) rfl (fun r12 m11 => ?_)
      refine ev_goto (tgt := 56) (ea_at dt_X12_log 31 rfl) rfl ?_
      exact ev_iret (ea_at dt_X12_log 33 rfl) rfl ⟨by decide, by decide⟩ (fun h => hR _ h)
  · refine ev_iconst (ea_at dt_X12_log 15 rfl) ic_0 ?_
    exact ev_iret (ea_at dt_X12_log 16 rfl) rfl ⟨by decide, by decide⟩ (fun h => hR _ h)
set_option maxHeartbeats 300000 in
theorem ok_X12_log (G : ea_G) (p1 : Int32) (p2 : Int32) (m : ea_M)  (rZ : Int32) (mZ : ea_M) (hZ : f_X12_log p1 p2 m = some (rZ, mZ)) : ea_Met G yX12_log F_X12_log [.ref 272, .int p1, .int p2] m (0, rZ, mZ) := by
  refine ea_met (F := F_X12_log) (by decide +kernel) rfl rfl (Nat.le_of_ble_eq_true rfl) (by simp only [List.mem_cons, List.not_mem_nil, or_false]; intro v hv; rcases hv with rfl | rfl | rfl <;> rfl) ((?_ : ea_E G F_X12_log (0, rZ, mZ) 0 [some (.ref 272), some (.int p1), some (.int p2)] [] m 0 0 (f_X12_log p1 p2 m) (fun t => t = (rZ, mZ))) (rZ, mZ) hZ rfl)
  have hR : ∀ t : Int32 × ea_M, t = (rZ, mZ) → ((0, rZ, mZ) : ea_O) = (0, t) := fun t h => by rw [h]
  unfold f_X12_log
  refine ev_aload_n (ea_at dt_X12_log 0 rfl) rfl ?_
  refine ev_iconst (ea_at dt_X12_log 1 rfl) ic_0 ?_
  refine ev_putI (ea_at dt_X12_log 2 rfl) fl_X12_3 fp_12_0 sh_272 rfl ?_
  refine ev_m (fun m1 => ?_)
  refine ev_aload_n (ea_at dt_X12_log 3 rfl) rfl ?_
  refine ev_iload_n (ea_at dt_X12_log 4 rfl) rfl ?_
  refine ev_iconst (ea_at dt_X12_log 5 rfl) ic_0 ?_
  refine ev_iconst (ea_at dt_X12_log 6 rfl) ic_5 ?_
  refine ev_clI (F1 := F_X12_in) (fun rY mY hY => ea_runS (As := [.int p2, .int 0, .int 5]) (ea_at dt_X12_log 7 rfl) ml_X12_78 mv_X12_in (ok_X12_in G p2 0 5 m1  rY mY hY) rfl rfl (Nat.le_of_ble_eq_true rfl) rfl) rfl (fun r3 m2 => ?_)
  refine ev_if_ne (tgt := 19) (ea_at dt_X12_log 8 rfl) rfl (fun _ => ?_) (fun _ => ?_)
  · refine ev_iconst (ea_at dt_X12_log 9 rfl) ic_1 ?_
    refine ev_goto (tgt := 20) (ea_at dt_X12_log 10 rfl) rfl ?_
    exact ev_drop (l' := [some (.ref 272), some (.int p1), some (.int p2)]) ⟨Or.inr rfl, Or.inr rfl, Or.inr rfl, trivial⟩ (jn_X12_log_20 G p1 p2 1 m2  hR)
  · refine ev_iconst (ea_at dt_X12_log 11 rfl) ic_0 ?_
    exact ev_drop (l' := [some (.ref 272), some (.int p1), some (.int p2)]) ⟨Or.inr rfl, Or.inr rfl, Or.inr rfl, trivial⟩ (jn_X12_log_20 G p1 p2 0 m2  hR)
def F_X12_seed : ea_F := (ea_rm 8 0 0, cX12_seed, RX12, some .int, 3, [], 0, 0)
def D_X12_seed : List (Nat × Instr × Nat) := [(0, .aload_n 0, 1), (1, .iconst 0, 1), (2, .putfield 3, 3), (5, .aload_n 0, 1), (6, .getfield 13, 3), (9, .bipush 12, 2), (11, .iaload, 1), (12, .istore_n 2, 1), (13, .aload_n 0, 1), (14, .getfield 13, 3), (17, .bipush 12, 2), (19, .iload_n 1, 1), (20, .iastore, 1), (21, .iload_n 2, 1), (22, .ireturn, 1)]
theorem dt_X12_seed : ∀ q ∈ D_X12_seed, decode cX12_seed q.1 = .ok q.2 := by decide +kernel
theorem mv_X12_seed : ea_MV yX12_seed (F_X12_seed) 1 := ⟨⟨List.mem_append_right _ (List.mem_of_getElem? (i := 13) (by decide +kernel)), List.mem_append_right _ (List.mem_of_getElem? (i := 2042) (by decide +kernel)), ⟨by decide, by decide⟩, by decide +kernel⟩, List.mem_append_right _ (List.mem_of_getElem? (i := 2040) (by decide +kernel)), List.mem_append_right _ (List.mem_of_getElem? (i := 2041) (by decide +kernel))⟩
def f_X12_seed (p1 : Int32) (m : ea_M) : Option (Int32 × ea_M) :=
  ea_bd (ea_st m 272 0 0) fun m1 =>
  ea_bd (m1 273 12) fun x2 =>
  ea_bd (ea_st m1 273 12 p1) fun m3 =>
  some (x2, m3)
set_option maxHeartbeats 300000 in
theorem ok_X12_seed (G : ea_G) (p1 : Int32) (m : ea_M)  (rZ : Int32) (mZ : ea_M) (hZ : f_X12_seed p1 m = some (rZ, mZ)) : ea_Met G yX12_seed F_X12_seed [.ref 272, .int p1] m (0, rZ, mZ) := by
  refine ea_met (F := F_X12_seed) (by decide +kernel) rfl rfl (Nat.le_of_ble_eq_true rfl) (by simp only [List.mem_cons, List.not_mem_nil, or_false]; intro v hv; rcases hv with rfl | rfl <;> rfl) ((?_ : ea_E G F_X12_seed (0, rZ, mZ) 0 [some (.ref 272), some (.int p1), none] [] m 0 0 (f_X12_seed p1 m) (fun t => t = (rZ, mZ))) (rZ, mZ) hZ rfl)
  have hR : ∀ t : Int32 × ea_M, t = (rZ, mZ) → ((0, rZ, mZ) : ea_O) = (0, t) := fun t h => by rw [h]
  unfold f_X12_seed
  refine ev_aload_n (ea_at dt_X12_seed 0 rfl) rfl ?_
  refine ev_iconst (ea_at dt_X12_seed 1 rfl) ic_0 ?_
  refine ev_putI (ea_at dt_X12_seed 2 rfl) fl_X12_3 fp_12_0 sh_272 rfl ?_
  refine ev_m (fun m1 => ?_)
  refine ev_aload_n (ea_at dt_X12_seed 3 rfl) rfl ?_
  refine ev_getR (ea_at dt_X12_seed 4 rfl) fl_X12_13 sh_272 rfl ?_
  refine ev_bipush (ea_at dt_X12_seed 5 rfl) bp_12 ?_
  refine ev_ialoadC (j := 12) (ea_at dt_X12_seed 6 rfl) sh_273 (by decide) (by decide) (by decide) (by decide) ?_
  refine ev_i (fun x2 => ?_)
  refine ev_istore_n (ls' := [some (.ref 272), some (.int p1), some (.int x2)]) (ea_at dt_X12_seed 7 rfl) (ea_lt rfl) rfl ?_
  refine ev_aload_n (ea_at dt_X12_seed 8 rfl) rfl ?_
  refine ev_getR (ea_at dt_X12_seed 9 rfl) fl_X12_13 sh_272 rfl ?_
  refine ev_bipush (ea_at dt_X12_seed 10 rfl) bp_12 ?_
  refine ev_iload_n (ea_at dt_X12_seed 11 rfl) rfl ?_
  refine ev_iastoreC (j := 12) (ea_at dt_X12_seed 12 rfl) sh_273 (by decide) (by decide) (by decide) (by decide) ?_
  refine ev_m (fun m3 => ?_)
  refine ev_iload_n (ea_at dt_X12_seed 13 rfl) rfl ?_
  exact ev_iret (ea_at dt_X12_seed 14 rfl) rfl ⟨by decide, by decide⟩ (fun h => hR _ h)
def F_X12_openOnes : ea_F := (ea_rm 11 0 0, cX12_openOnes, RX12, some .int, 3, [], 0, 0)
def D_X12_openOnes : List (Nat × Instr × Nat) := [(0, .iconst 0, 1), (1, .istore_n 1, 1), (2, .iconst 0, 1), (3, .istore_n 2, 1), (4, .iload_n 2, 1), (5, .aload_n 0, 1), (6, .invokevirtual 85, 3), (9, .if_icmp .ge 27, 3), (12, .iload_n 1, 1), (13, .aload_n 0, 1), (14, .iload_n 2, 1), (15, .invokevirtual 407, 3), (18, .ifCond .eq 9, 3), (21, .iconst 1, 1), (22, .iload_n 2, 1), (23, .ishl, 1), (24, .goto 4, 3), (27, .iconst 0, 1), (28, .ior, 1), (29, .istore_n 1, 1), (30, .iinc 2 1, 3), (33, .goto (-29), 3), (36, .iload_n 1, 1), (37, .ireturn, 1)]
theorem dt_X12_openOnes : ∀ q ∈ D_X12_openOnes, decode cX12_openOnes q.1 = .ok q.2 := by decide +kernel
theorem mv_X12_openOnes : ea_MV yX12_openOnes (F_X12_openOnes) 0 := ⟨⟨List.mem_append_right _ (List.mem_of_getElem? (i := 13) (by decide +kernel)), List.mem_append_right _ (List.mem_of_getElem? (i := 2050) (by decide +kernel)), ⟨by decide, by decide⟩, by decide +kernel⟩, List.mem_append_right _ (List.mem_of_getElem? (i := 2049) (by decide +kernel)), List.mem_append_left _ (List.mem_of_getElem? (i := 120) (by decide +kernel))⟩
def f_X12_openOnes_j28 (x5 : Int32) (x6 : Int32) (x7 : Int32) (m8 : ea_M) : Option ((Int32 × Int32 × ea_M) ⊕ (Int32 × ea_M)) :=
  ea_bd (x6 ||| x7) fun x9 =>
  some (.inl (x9, x5 + 1, m8))
def f_X12_openOnes_s4  (s4 : Int32 × Int32 × ea_M) : Option ((Int32 × Int32 × ea_M) ⊕ (Int32 × ea_M)) :=
  ea_cl (f_X12_cases s4.2.2) fun r2 m1 =>
  if r2 ≤ s4.2.1 then
  some (.inr (s4.1, m1))
  else
  ea_cl (f_X12_isOpen s4.2.1 m1) fun r4 m3 =>
  if r4 = 0 then
  f_X12_openOnes_j28 s4.2.1 s4.1 0 m3
  else
  f_X12_openOnes_j28 s4.2.1 s4.1 (1 <<< (s4.2.1 &&& 31)) m3
def f_X12_openOnes (m : ea_M) : Option (Int32 × ea_M) :=
  (ea_loop f_X12_openOnes_s4 ea_fuel (0, 0, m)).bind (fun x4s =>
  some (x4s.1, x4s.2))
set_option maxHeartbeats 300000 in
theorem jn_X12_openOnes_28 (G : ea_G) {res : ea_O}  (x5 : Int32) (x6 : Int32) (x7 : Int32) (m8 : ea_M)  {Φ : ((Int32 × Int32 × ea_M) ⊕ (Int32 × ea_M)) → Prop} (hC : ∀ s4 : Int32 × Int32 × ea_M, Φ (.inl s4) → ea_Ev G F_X12_openOnes res 4 [some (.ref 272), some (.int s4.1), some (.int s4.2.1)] [] s4.2.2 0 0) (hX : ∀ x4s : Int32 × ea_M, Φ (.inr x4s) → ea_Ev G F_X12_openOnes res 36 [none, some (.int x4s.1), none] [] x4s.2 0 0) : ea_E G F_X12_openOnes res 28 [some (.ref 272), none, some (.int x5)] [.int x7, .int x6] m8 0 0 (f_X12_openOnes_j28 x5 x6 x7 m8) Φ := by
  unfold f_X12_openOnes_j28
  refine ev_ior (ea_at dt_X12_openOnes 18 rfl) ?_
  refine ev_i (fun x9 => ?_)
  refine ev_istore_n (ls' := [some (.ref 272), some (.int x9), some (.int x5)]) (ea_at dt_X12_openOnes 19 rfl) (ea_lt rfl) rfl ?_
  refine ev_iinc (ls' := [some (.ref 272), some (.int x9), some (.int (x5 + 1))]) (ea_at dt_X12_openOnes 20 rfl) rfl (congrArg (fun z => _ + z) ic_1) (ea_lt rfl) rfl ?_
  refine ev_goto (tgt := 4) (ea_at dt_X12_openOnes 21 rfl) rfl ?_
  exact ev_leaf (fun h => ea_drop (l' := [some (.ref 272), some (.int x9), some (.int (x5 + 1))]) ⟨Or.inr rfl, Or.inr rfl, Or.inr rfl, trivial⟩ (hC (x9, x5 + 1, m8) h))
set_option maxHeartbeats 300000 in
theorem lp_X12_openOnes_4 (G : ea_G) {res : ea_O}    {Ψ : (Int32 × ea_M) → Prop} (hX : ∀ x4s : Int32 × ea_M, Ψ x4s → ea_Ev G F_X12_openOnes res 36 [none, some (.int x4s.1), none] [] x4s.2 0 0) : ∀ (f : Nat) (s4 : Int32 × Int32 × ea_M), ea_E G F_X12_openOnes res 4 [some (.ref 272), some (.int s4.1), some (.int s4.2.1)] [] s4.2.2 0 0 (ea_loop f_X12_openOnes_s4 f s4) Ψ := by
  refine ev_loop (G := G) (F := F_X12_openOnes) (res := res) (pc := 4) (st := []) (k := 0) (n := 0) (step := f_X12_openOnes_s4) (Ψ := Ψ) (fun (s4 : Int32 × Int32 × ea_M) => [some (.ref 272), some (.int s4.1), some (.int s4.2.1)]) (fun (s4 : Int32 × Int32 × ea_M) => s4.2.2) (fun s4 => ?_)
  have hC : ∀ s4 : Int32 × Int32 × ea_M, (Sum.elim (fun s4 : Int32 × Int32 × ea_M => ea_Ev G F_X12_openOnes res 4 [some (.ref 272), some (.int s4.1), some (.int s4.2.1)] [] s4.2.2 0 0) Ψ) (.inl s4) → ea_Ev G F_X12_openOnes res 4 [some (.ref 272), some (.int s4.1), some (.int s4.2.1)] [] s4.2.2 0 0 := fun _ h => h
  have hX : ∀ x4s : Int32 × ea_M, (Sum.elim (fun s4 : Int32 × Int32 × ea_M => ea_Ev G F_X12_openOnes res 4 [some (.ref 272), some (.int s4.1), some (.int s4.2.1)] [] s4.2.2 0 0) Ψ) (.inr x4s) → ea_Ev G F_X12_openOnes res 36 [none, some (.int x4s.1), none] [] x4s.2 0 0 := hX
  unfold f_X12_openOnes_s4
  refine ev_iload_n (ea_at dt_X12_openOnes 4 rfl) rfl ?_
  refine ev_aload_n (ea_at dt_X12_openOnes 5 rfl) rfl ?_
  refine ev_clI (F1 := F_X12_cases) (fun rY mY hY => ea_runV (As := []) (ea_at dt_X12_openOnes 6 rfl) ml_X12_85 mv_X12_cases (ok_X12_cases G s4.2.2  rY mY hY) sh_272 rfl rfl rfl (Nat.le_of_ble_eq_true rfl) rfl) rfl (fun r2 m1 => ?_)
  refine ev_icmp_ge (tgt := 36) (ea_at dt_X12_openOnes 7 rfl) rfl (fun _ => ?_) (fun _ => ?_)
  · exact ev_leaf (fun h => ea_drop (l' := [none, some (.int s4.1), none]) ⟨Or.inl rfl, Or.inr rfl, Or.inl rfl, trivial⟩ (hX (s4.1, m1) h))
  · refine ev_iload_n (ea_at dt_X12_openOnes 8 rfl) rfl ?_
    refine ev_aload_n (ea_at dt_X12_openOnes 9 rfl) rfl ?_
    refine ev_iload_n (ea_at dt_X12_openOnes 10 rfl) rfl ?_
    refine ev_clI (F1 := F_X12_isOpen) (fun rY mY hY => ea_runV (As := [.int s4.2.1]) (ea_at dt_X12_openOnes 11 rfl) ml_X12_407 mv_X12_isOpen (ok_X12_isOpen G s4.2.1 m1  rY mY hY) sh_272 rfl rfl rfl (Nat.le_of_ble_eq_true rfl) rfl) rfl (fun r4 m3 => ?_)
    refine ev_if_eq (tgt := 27) (ea_at dt_X12_openOnes 12 rfl) rfl (fun _ => ?_) (fun _ => ?_)
    · refine ev_iconst (ea_at dt_X12_openOnes 17 rfl) ic_0 ?_
      exact ev_drop (l' := [some (.ref 272), none, some (.int s4.2.1)]) ⟨Or.inr rfl, Or.inl rfl, Or.inr rfl, trivial⟩ (jn_X12_openOnes_28 G s4.2.1 s4.1 0 m3  hC hX)
    · refine ev_iconst (ea_at dt_X12_openOnes 13 rfl) ic_1 ?_
      refine ev_iload_n (ea_at dt_X12_openOnes 14 rfl) rfl ?_
      refine ev_ishl (ea_at dt_X12_openOnes 15 rfl) ?_
      refine ev_goto (tgt := 28) (ea_at dt_X12_openOnes 16 rfl) rfl ?_
      exact ev_drop (l' := [some (.ref 272), none, some (.int s4.2.1)]) ⟨Or.inr rfl, Or.inl rfl, Or.inr rfl, trivial⟩ (jn_X12_openOnes_28 G s4.2.1 s4.1 (1 <<< (s4.2.1 &&& 31)) m3  hC hX)
set_option maxHeartbeats 300000 in
theorem ok_X12_openOnes (G : ea_G) (m : ea_M)  (rZ : Int32) (mZ : ea_M) (hZ : f_X12_openOnes m = some (rZ, mZ)) : ea_Met G yX12_openOnes F_X12_openOnes [.ref 272] m (0, rZ, mZ) := by
  refine ea_met (F := F_X12_openOnes) (by decide +kernel) rfl rfl (Nat.le_of_ble_eq_true rfl) (by simp only [List.mem_cons, List.not_mem_nil, or_false]; intro v hv; rcases hv with rfl <;> rfl) ((?_ : ea_E G F_X12_openOnes (0, rZ, mZ) 0 [some (.ref 272), none, none] [] m 0 0 (f_X12_openOnes m) (fun t => t = (rZ, mZ))) (rZ, mZ) hZ rfl)
  have hR : ∀ t : Int32 × ea_M, t = (rZ, mZ) → ((0, rZ, mZ) : ea_O) = (0, t) := fun t h => by rw [h]
  unfold f_X12_openOnes
  refine ev_iconst (ea_at dt_X12_openOnes 0 rfl) ic_0 ?_
  refine ev_istore_n (ls' := [some (.ref 272), some (.int 0), none]) (ea_at dt_X12_openOnes 1 rfl) (ea_lt rfl) rfl ?_
  refine ev_iconst (ea_at dt_X12_openOnes 2 rfl) ic_0 ?_
  refine ev_istore_n (ls' := [some (.ref 272), some (.int 0), some (.int 0)]) (ea_at dt_X12_openOnes 3 rfl) (ea_lt rfl) rfl ?_
  refine ev_drop (l' := [some (.ref 272), some (.int 0), some (.int 0)]) ⟨Or.inr rfl, Or.inr rfl, Or.inr rfl, trivial⟩ ?_
  refine ev_bind (lp_X12_openOnes_4 G   (fun x4s h => ?_) ea_fuel (0, 0, m))
  obtain ⟨t1, e1, q1⟩ := h
  refine (?_ : ea_E G F_X12_openOnes (0, rZ, mZ) 36 [none, some (.int x4s.1), none] [] x4s.2 0 0 _ (fun t => t = (rZ, mZ))) t1 e1 q1
  refine ev_iload_n (ea_at dt_X12_openOnes 22 rfl) rfl ?_
  exact ev_iret (ea_at dt_X12_openOnes 23 rfl) rfl ⟨by decide, by decide⟩ (fun h => hR _ h)
def F_X12_isCalm : ea_F := (ea_rm 8 0 0, cX12_isCalm, RX12, some .boolean, 3, [], 0, 0)
def D_X12_isCalm : List (Nat × Instr × Nat) := [(0, .iconst 1, 1), (1, .istore_n 1, 1), (2, .iconst 0, 1), (3, .istore_n 2, 1), (4, .iload_n 2, 1), (5, .bipush 13, 2), (7, .if_icmp .ge 31, 3), (10, .iload_n 1, 1), (11, .ifCond .eq 19, 3), (14, .aload_n 0, 1), (15, .getfield 13, 3), (18, .bipush 13, 2), (20, .iload_n 2, 1), (21, .iadd, 1), (22, .iaload, 1), (23, .ifCond .ne 7, 3), (26, .iconst 1, 1), (27, .goto 4, 3), (30, .iconst 0, 1), (31, .istore_n 1, 1), (32, .iinc 2 1, 3), (35, .goto (-31), 3), (38, .iload_n 1, 1), (39, .ireturn, 1)]
theorem dt_X12_isCalm : ∀ q ∈ D_X12_isCalm, decode cX12_isCalm q.1 = .ok q.2 := by decide +kernel
theorem mv_X12_isCalm : ea_MV yX12_isCalm (F_X12_isCalm) 0 := ⟨⟨List.mem_append_right _ (List.mem_of_getElem? (i := 13) (by decide +kernel)), List.mem_append_right _ (List.mem_of_getElem? (i := 2054) (by decide +kernel)), ⟨by decide, by decide⟩, by decide +kernel⟩, List.mem_append_right _ (List.mem_of_getElem? (i := 2053) (by decide +kernel)), List.mem_append_left _ (List.mem_of_getElem? (i := 121) (by decide +kernel))⟩
def f_X12_isCalm_j31 (x3 : Int32) (x4 : Int32) (m5 : ea_M) : Option ((Int32 × Int32 × ea_M) ⊕ (Int32 × ea_M)) :=
  some (.inl (x4, x3 + 1, m5))
def f_X12_isCalm_j30 (x1 : Int32) (m2 : ea_M) : Option ((Int32 × Int32 × ea_M) ⊕ (Int32 × ea_M)) :=
  f_X12_isCalm_j31 x1 0 m2
def f_X12_isCalm_s4  (s4 : Int32 × Int32 × ea_M) : Option ((Int32 × Int32 × ea_M) ⊕ (Int32 × ea_M)) :=
  if 13 ≤ s4.2.1 then
  some (.inr (s4.1, s4.2.2))
  else
  if s4.1 = 0 then
  f_X12_isCalm_j30 s4.2.1 s4.2.2
  else
  ea_g (13 + s4.2.1) 2180 (ea_bd (s4.2.2 273 (Int32.toNatClampNeg (13 + s4.2.1))) fun x6 =>
  if x6 = 0 then
  f_X12_isCalm_j31 s4.2.1 1 s4.2.2
  else
  f_X12_isCalm_j30 s4.2.1 s4.2.2)
def f_X12_isCalm (m : ea_M) : Option (Int32 × ea_M) :=
  (ea_loop f_X12_isCalm_s4 ea_fuel (1, 0, m)).bind (fun x4s =>
  ea_gz x4s.1 (some (x4s.1, x4s.2)))
set_option maxHeartbeats 300000 in
theorem jn_X12_isCalm_31 (G : ea_G) {res : ea_O}  (x3 : Int32) (x4 : Int32) (m5 : ea_M)  {Φ : ((Int32 × Int32 × ea_M) ⊕ (Int32 × ea_M)) → Prop} (hC : ∀ s4 : Int32 × Int32 × ea_M, Φ (.inl s4) → ea_Ev G F_X12_isCalm res 4 [some (.ref 272), some (.int s4.1), some (.int s4.2.1)] [] s4.2.2 0 0) (hX : ∀ x4s : Int32 × ea_M, Φ (.inr x4s) → ea_Ev G F_X12_isCalm res 38 [none, some (.int x4s.1), none] [] x4s.2 0 0) : ea_E G F_X12_isCalm res 31 [some (.ref 272), none, some (.int x3)] [.int x4] m5 0 0 (f_X12_isCalm_j31 x3 x4 m5) Φ := by
  unfold f_X12_isCalm_j31
  refine ev_istore_n (ls' := [some (.ref 272), some (.int x4), some (.int x3)]) (ea_at dt_X12_isCalm 19 rfl) (ea_lt rfl) rfl ?_
  refine ev_iinc (ls' := [some (.ref 272), some (.int x4), some (.int (x3 + 1))]) (ea_at dt_X12_isCalm 20 rfl) rfl (congrArg (fun z => _ + z) ic_1) (ea_lt rfl) rfl ?_
  refine ev_goto (tgt := 4) (ea_at dt_X12_isCalm 21 rfl) rfl ?_
  exact ev_leaf (fun h => ea_drop (l' := [some (.ref 272), some (.int x4), some (.int (x3 + 1))]) ⟨Or.inr rfl, Or.inr rfl, Or.inr rfl, trivial⟩ (hC (x4, x3 + 1, m5) h))
set_option maxHeartbeats 300000 in
theorem jn_X12_isCalm_30 (G : ea_G) {res : ea_O}  (x1 : Int32) (m2 : ea_M)  {Φ : ((Int32 × Int32 × ea_M) ⊕ (Int32 × ea_M)) → Prop} (hC : ∀ s4 : Int32 × Int32 × ea_M, Φ (.inl s4) → ea_Ev G F_X12_isCalm res 4 [some (.ref 272), some (.int s4.1), some (.int s4.2.1)] [] s4.2.2 0 0) (hX : ∀ x4s : Int32 × ea_M, Φ (.inr x4s) → ea_Ev G F_X12_isCalm res 38 [none, some (.int x4s.1), none] [] x4s.2 0 0) : ea_E G F_X12_isCalm res 30 [some (.ref 272), none, some (.int x1)] [] m2 0 0 (f_X12_isCalm_j30 x1 m2) Φ := by
  unfold f_X12_isCalm_j30
  refine ev_iconst (ea_at dt_X12_isCalm 18 rfl) ic_0 ?_
  exact ev_drop (l' := [some (.ref 272), none, some (.int x1)]) ⟨Or.inr rfl, Or.inl rfl, Or.inr rfl, trivial⟩ (jn_X12_isCalm_31 G x1 0 m2  hC hX)
set_option maxHeartbeats 300000 in
theorem lp_X12_isCalm_4 (G : ea_G) {res : ea_O}    {Ψ : (Int32 × ea_M) → Prop} (hX : ∀ x4s : Int32 × ea_M, Ψ x4s → ea_Ev G F_X12_isCalm res 38 [none, some (.int x4s.1), none] [] x4s.2 0 0) : ∀ (f : Nat) (s4 : Int32 × Int32 × ea_M), ea_E G F_X12_isCalm res 4 [some (.ref 272), some (.int s4.1), some (.int s4.2.1)] [] s4.2.2 0 0 (ea_loop f_X12_isCalm_s4 f s4) Ψ := by
  refine ev_loop (G := G) (F := F_X12_isCalm) (res := res) (pc := 4) (st := []) (k := 0) (n := 0) (step := f_X12_isCalm_s4) (Ψ := Ψ) (fun (s4 : Int32 × Int32 × ea_M) => [some (.ref 272), some (.int s4.1), some (.int s4.2.1)]) (fun (s4 : Int32 × Int32 × ea_M) => s4.2.2) (fun s4 => ?_)
  have hC : ∀ s4 : Int32 × Int32 × ea_M, (Sum.elim (fun s4 : Int32 × Int32 × ea_M => ea_Ev G F_X12_isCalm res 4 [some (.ref 272), some (.int s4.1), some (.int s4.2.1)] [] s4.2.2 0 0) Ψ) (.inl s4) → ea_Ev G F_X12_isCalm res 4 [some (.ref 272), some (.int s4.1), some (.int s4.2.1)] [] s4.2.2 0 0 := fun _ h => h
  have hX : ∀ x4s : Int32 × ea_M, (Sum.elim (fun s4 : Int32 × Int32 × ea_M => ea_Ev G F_X12_isCalm res 4 [some (.ref 272), some (.int s4.1), some (.int s4.2.1)] [] s4.2.2 0 0) Ψ) (.inr x4s) → ea_Ev G F_X12_isCalm res 38 [none, some (.int x4s.1), none] [] x4s.2 0 0 := hX
  unfold f_X12_isCalm_s4
  refine ev_iload_n (ea_at dt_X12_isCalm 4 rfl) rfl ?_
  refine ev_bipush (ea_at dt_X12_isCalm 5 rfl) bp_13 ?_
  refine ev_icmp_ge (tgt := 38) (ea_at dt_X12_isCalm 6 rfl) rfl (fun _ => ?_) (fun _ => ?_)
  · exact ev_leaf (fun h => ea_drop (l' := [none, some (.int s4.1), none]) ⟨Or.inl rfl, Or.inr rfl, Or.inl rfl, trivial⟩ (hX (s4.1, s4.2.2) h))
  · refine ev_iload_n (ea_at dt_X12_isCalm 7 rfl) rfl ?_
    refine ev_if_eq (tgt := 30) (ea_at dt_X12_isCalm 8 rfl) rfl (fun _ => ?_) (fun _ => ?_)
    · exact ev_drop (l' := [some (.ref 272), none, some (.int s4.2.1)]) ⟨Or.inr rfl, Or.inl rfl, Or.inr rfl, trivial⟩ (jn_X12_isCalm_30 G s4.2.1 s4.2.2  hC hX)
    · refine ev_aload_n (ea_at dt_X12_isCalm 9 rfl) rfl ?_
      refine ev_getR (ea_at dt_X12_isCalm 10 rfl) fl_X12_13 sh_272 rfl ?_
      refine ev_bipush (ea_at dt_X12_isCalm 11 rfl) bp_13 ?_
      refine ev_iload_n (ea_at dt_X12_isCalm 12 rfl) rfl ?_
      refine ev_iadd (ea_at dt_X12_isCalm 13 rfl) ?_
      refine ev_iaload (ea_at dt_X12_isCalm 14 rfl) sh_273 (by decide) ?_
      refine ev_i (fun x6 => ?_)
      refine ev_if_ne (tgt := 30) (ea_at dt_X12_isCalm 15 rfl) rfl (fun _ => ?_) (fun _ => ?_)
      · refine ev_iconst (ea_at dt_X12_isCalm 16 rfl) ic_1 ?_
        refine ev_goto (tgt := 31) (ea_at dt_X12_isCalm 17 rfl) rfl ?_
        exact ev_drop (l' := [some (.ref 272), none, some (.int s4.2.1)]) ⟨Or.inr rfl, Or.inl rfl, Or.inr rfl, trivial⟩ (jn_X12_isCalm_31 G s4.2.1 1 s4.2.2  hC hX)
      · exact ev_drop (l' := [some (.ref 272), none, some (.int s4.2.1)]) ⟨Or.inr rfl, Or.inl rfl, Or.inr rfl, trivial⟩ (jn_X12_isCalm_30 G s4.2.1 s4.2.2  hC hX)
set_option maxHeartbeats 300000 in
theorem ok_X12_isCalm (G : ea_G) (m : ea_M)  (rZ : Int32) (mZ : ea_M) (hZ : f_X12_isCalm m = some (rZ, mZ)) : ea_Met G yX12_isCalm F_X12_isCalm [.ref 272] m (0, rZ, mZ) := by
  refine ea_met (F := F_X12_isCalm) (by decide +kernel) rfl rfl (Nat.le_of_ble_eq_true rfl) (by simp only [List.mem_cons, List.not_mem_nil, or_false]; intro v hv; rcases hv with rfl <;> rfl) ((?_ : ea_E G F_X12_isCalm (0, rZ, mZ) 0 [some (.ref 272), none, none] [] m 0 0 (f_X12_isCalm m) (fun t => t = (rZ, mZ))) (rZ, mZ) hZ rfl)
  have hR : ∀ t : Int32 × ea_M, t = (rZ, mZ) → ((0, rZ, mZ) : ea_O) = (0, t) := fun t h => by rw [h]
  unfold f_X12_isCalm
  refine ev_iconst (ea_at dt_X12_isCalm 0 rfl) ic_1 ?_
  refine ev_istore_n (ls' := [some (.ref 272), some (.int 1), none]) (ea_at dt_X12_isCalm 1 rfl) (ea_lt rfl) rfl ?_
  refine ev_iconst (ea_at dt_X12_isCalm 2 rfl) ic_0 ?_
  refine ev_istore_n (ls' := [some (.ref 272), some (.int 1), some (.int 0)]) (ea_at dt_X12_isCalm 3 rfl) (ea_lt rfl) rfl ?_
  refine ev_drop (l' := [some (.ref 272), some (.int 1), some (.int 0)]) ⟨Or.inr rfl, Or.inr rfl, Or.inr rfl, trivial⟩ ?_
  refine ev_bind (lp_X12_isCalm_4 G   (fun x4s h => ?_) ea_fuel (1, 0, m))
  obtain ⟨t1, e1, q1⟩ := h
  refine (?_ : ea_E G F_X12_isCalm (0, rZ, mZ) 38 [none, some (.int x4s.1), none] [] x4s.2 0 0 _ (fun t => t = (rZ, mZ))) t1 e1 q1
  refine ev_iload_n (ea_at dt_X12_isCalm 22 rfl) rfl ?_
  exact ev_zretG (ea_at dt_X12_isCalm 23 rfl) rfl ⟨by decide, by decide⟩ (fun h => hR _ h)
