def F_X12_weeks : ea_F := (ea_rm 11 0 0, cX12_weeks, RX12, some .int, 4, [], 0, 0)
def D_X12_weeks : List (Nat × Instr × Nat) := [(0, .aload_n 0, 1), (1, .iconst 0, 1), (2, .putfield 3, 3), (5, .aload_n 0, 1), (6, .iload_n 1, 1), (7, .iconst 1, 1), (8, .bipush 60, 2), (10, .invokestatic 78, 3), (13, .ifCond .ne 7, 3), (16, .iconst 1, 1), (17, .goto 4, 3), (20, .iconst 0, 1), (21, .iconst 1, 1), (22, .invokevirtual 265, 3), (25, .ifCond .eq 5, 3), (28, .iconst 0, 1), (29, .ireturn, 1), (30, .aload_n 0, 1), (31, .invokevirtual 423, 3), (34, .iconst 0, 1), (35, .istore_n 2, 1), (36, .iconst 0, 1), (37, .istore_n 3, 1), (38, .iload_n 3, 1), (39, .iload_n 1, 1), (40, .if_icmp .ge 16, 3), (43, .iload_n 2, 1), (44, .aload_n 0, 1), (45, .invokevirtual 432, 3), (48, .iadd, 1), (49, .istore_n 2, 1), (50, .iinc 3 1, 3), (53, .goto (-15), 3), (56, .iload_n 2, 1), (57, .ireturn, 1)]
theorem dt_X12_weeks : ∀ q ∈ D_X12_weeks, decode cX12_weeks q.1 = .ok q.2 := by decide +kernel
theorem mv_X12_weeks : ea_MV yX12_weeks (F_X12_weeks) 1 := ⟨⟨List.mem_append_right _ (List.mem_of_getElem? (i := 13) (by decide +kernel)), List.mem_append_right _ (List.mem_of_getElem? (i := 1965) (by decide +kernel)), ⟨by decide, by decide⟩, by decide +kernel⟩, List.mem_append_right _ (List.mem_of_getElem? (i := 1963) (by decide +kernel)), List.mem_append_right _ (List.mem_of_getElem? (i := 1964) (by decide +kernel))⟩
def f_X12_weeks_s38 (p1 : Int32)  (s38 : Int32 × Int32 × ea_M) : Option ((Int32 × Int32 × ea_M) ⊕ (Int32 × ea_M)) :=
  if p1 ≤ s38.2.1 then
  some (.inr (s38.1, s38.2.2))
  else
  ea_cl (f_X12_oneWeek s38.2.2) fun r11 m10 =>
  ea_bd (s38.1 + r11) fun x12 =>
  some (.inl (x12, s38.2.1 + 1, m10))
def f_X12_weeks_j21 (p1 : Int32) (x4 : Int32) (m5 : ea_M) : Option (Int32 × ea_M) :=
  ea_cl (f_X12_throwsIf x4 1 m5) fun r7 m6 =>
  if r7 = 0 then
  ea_cl (f_X12_remembers m6) fun r9 m8 =>
  (ea_loop (f_X12_weeks_s38 p1) ea_fuel (0, 0, m8)).bind (fun x38s =>
  some (x38s.1, x38s.2))
  else
  some (0, m6)
def f_X12_weeks (p1 : Int32) (m : ea_M) : Option (Int32 × ea_M) :=
  ea_bd (ea_st m 272 0 0) fun m1 =>
  ea_cl (f_X12_in p1 1 60 m1) fun r3 m2 =>
  if r3 = 0 then
  f_X12_weeks_j21 p1 1 m2
  else
  f_X12_weeks_j21 p1 0 m2
set_option maxHeartbeats 300000 in
theorem lp_X12_weeks_38 (G : ea_G) {res : ea_O}  (p1 : Int32)  {Ψ : (Int32 × ea_M) → Prop} (hX : ∀ x38s : Int32 × ea_M, Ψ x38s → ea_Ev G F_X12_weeks res 56 [none, none, some (.int x38s.1), none] [] x38s.2 0 0) : ∀ (f : Nat) (s38 : Int32 × Int32 × ea_M), ea_E G F_X12_weeks res 38 [some (.ref 272), some (.int p1), some (.int s38.1), some (.int s38.2.1)] [] s38.2.2 0 0 (ea_loop (f_X12_weeks_s38 p1) f s38) Ψ := by
  refine ev_loop (G := G) (F := F_X12_weeks) (res := res) (pc := 38) (st := []) (k := 0) (n := 0) (step := (f_X12_weeks_s38 p1)) (Ψ := Ψ) (fun (s38 : Int32 × Int32 × ea_M) => [some (.ref 272), some (.int p1), some (.int s38.1), some (.int s38.2.1)]) (fun (s38 : Int32 × Int32 × ea_M) => s38.2.2) (fun s38 => ?_)
  have hC : ∀ s38 : Int32 × Int32 × ea_M, (Sum.elim (fun s38 : Int32 × Int32 × ea_M => ea_Ev G F_X12_weeks res 38 [some (.ref 272), some (.int p1), some (.int s38.1), some (.int s38.2.1)] [] s38.2.2 0 0) Ψ) (.inl s38) → ea_Ev G F_X12_weeks res 38 [some (.ref 272), some (.int p1), some (.int s38.1), some (.int s38.2.1)] [] s38.2.2 0 0 := fun _ h => h
  have hX : ∀ x38s : Int32 × ea_M, (Sum.elim (fun s38 : Int32 × Int32 × ea_M => ea_Ev G F_X12_weeks res 38 [some (.ref 272), some (.int p1), some (.int s38.1), some (.int s38.2.1)] [] s38.2.2 0 0) Ψ) (.inr x38s) → ea_Ev G F_X12_weeks res 56 [none, none, some (.int x38s.1), none] [] x38s.2 0 0 := hX
  unfold f_X12_weeks_s38
  refine ev_iload_n (ea_at dt_X12_weeks 23 rfl) rfl ?_
  refine ev_iload_n (ea_at dt_X12_weeks 24 rfl) rfl ?_
  refine ev_icmp_ge (tgt := 56) (ea_at dt_X12_weeks 25 rfl) rfl (fun _ => ?_) (fun _ => ?_)
  · exact ev_leaf (fun h => ea_drop (l' := [none, none, some (.int s38.1), none]) ⟨Or.inl rfl, Or.inl rfl, Or.inr rfl, Or.inl rfl, trivial⟩ (hX (s38.1, s38.2.2) h))
  · refine ev_iload_n (ea_at dt_X12_weeks 26 rfl) rfl ?_
    refine ev_aload_n (ea_at dt_X12_weeks 27 rfl) rfl ?_
    refine ev_clI (F1 := F_X12_oneWeek) (fun rY mY hY => ea_runV (As := []) (ea_at dt_X12_weeks 28 rfl) ml_X12_432 mv_X12_oneWeek (ok_X12_oneWeek G s38.2.2  rY mY hY) sh_272 rfl rfl rfl (Nat.le_of_ble_eq_true rfl) rfl) rfl (fun r11 m10 => ?_)
    refine ev_iadd (ea_at dt_X12_weeks 29 rfl) ?_
    refine ev_i (fun x12 => ?_)
    refine ev_istore_n (ls' := [some (.ref 272), some (.int p1), some (.int x12), some (.int s38.2.1)]) (ea_at dt_X12_weeks 30 rfl) (ea_lt rfl) rfl ?_
    refine ev_iinc (ls' := [some (.ref 272), some (.int p1), some (.int x12), some (.int (s38.2.1 + 1))]) (ea_at dt_X12_weeks 31 rfl) rfl (congrArg (fun z => _ + z) ic_1) (ea_lt rfl) rfl ?_
    refine ev_goto (tgt := 38) (ea_at dt_X12_weeks 32 rfl) rfl ?_
    exact ev_leaf (fun h => ea_drop (l' := [some (.ref 272), some (.int p1), some (.int x12), some (.int (s38.2.1 + 1))]) ⟨Or.inr rfl, Or.inr rfl, Or.inr rfl, Or.inr rfl, trivial⟩ (hC (x12, s38.2.1 + 1, m10) h))
set_option maxHeartbeats 300000 in
theorem jn_X12_weeks_21 (G : ea_G) {res : ea_O}  (p1 : Int32) (x4 : Int32) (m5 : ea_M)  {Φ : (Int32 × ea_M) → Prop} (hR : ∀ t : Int32 × ea_M, Φ t → res = (0, t)) : ea_E G F_X12_weeks res 21 [some (.ref 272), some (.int p1), none, none] [.int x4, .ref 272] m5 0 0 (f_X12_weeks_j21 p1 x4 m5) Φ := by
  unfold f_X12_weeks_j21
  refine ev_iconst (ea_at dt_X12_weeks 12 rfl) ic_1 ?_
  refine ev_clI (F1 := F_X12_throwsIf) (fun rY mY hY => ea_runV (As := [.int x4, .int 1]) (ea_at dt_X12_weeks 13 rfl) ml_X12_265 mv_X12_throwsIf (ok_X12_throwsIf G x4 1 m5  rY mY hY) sh_272 rfl rfl rfl (Nat.le_of_ble_eq_true rfl) rfl) rfl (fun r7 m6 => ?_)
  refine ev_if_eq (tgt := 30) (ea_at dt_X12_weeks 14 rfl) rfl (fun _ => ?_) (fun _ => ?_)
  · refine ev_aload_n (ea_at dt_X12_weeks 17 rfl) rfl ?_
    refine ev_clU (F1 := F_X12_remembers) (fun rY mY hY => ea_runV (As := []) (ea_at dt_X12_weeks 18 rfl) ml_X12_423 mv_X12_remembers (ok_X12_remembers G m6  rY mY hY) sh_272 rfl rfl rfl (Nat.le_of_ble_eq_true rfl) rfl) rfl (fun r9 m8 => ?_)
    refine ev_iconst (ea_at dt_X12_weeks 19 rfl) ic_0 ?_
    refine ev_istore_n (ls' := [some (.ref 272), some (.int p1), some (.int 0), none]) (ea_at dt_X12_weeks 20 rfl) (ea_lt rfl) rfl ?_
    refine ev_iconst (ea_at dt_X12_weeks 21 rfl) ic_0 ?_
    refine ev_istore_n (ls' := [some (.ref 272), some (.int p1), some (.int 0), some (.int 0)]) (ea_at dt_X12_weeks 22 rfl) (ea_lt rfl) rfl ?_
    refine ev_drop (l' := [some (.ref 272), some (.int p1), some (.int 0), some (.int 0)]) ⟨Or.inr rfl, Or.inr rfl, Or.inr rfl, Or.inr rfl, trivial⟩ ?_
    refine ev_bind (lp_X12_weeks_38 G p1   (fun x38s h => ?_) ea_fuel (0, 0, m8))
    obtain ⟨t1, e1, q1⟩ := h
    refine (?_ : ea_E G F_X12_weeks res 56 [none, none, some (.int x38s.1), none] [] x38s.2 0 0 _ Φ) t1 e1 q1
    refine ev_iload_n (ea_at dt_X12_weeks 33 rfl) rfl ?_
    exact ev_iret (ea_at dt_X12_weeks 34 rfl) rfl ⟨by decide, by decide⟩ (fun h => hR _ h)
  · refine ev_iconst (ea_at dt_X12_weeks 15 rfl) ic_0 ?_
    exact ev_iret (ea_at dt_X12_weeks 16 rfl) rfl ⟨by decide, by decide⟩ (fun h => hR _ h)
set_option maxHeartbeats 300000 in
theorem ok_X12_weeks (G : ea_G) (p1 : Int32) (m : ea_M)  (rZ : Int32) (mZ : ea_M) (hZ : f_X12_weeks p1 m = some (rZ, mZ)) : ea_Met G yX12_weeks F_X12_weeks [.ref 272, .int p1] m (0, rZ, mZ) := by
  refine ea_met (F := F_X12_weeks) (by decide +kernel) rfl rfl (Nat.le_of_ble_eq_true rfl) (by simp only [List.mem_cons, List.not_mem_nil, or_false]; intro v hv; rcases hv with rfl | rfl <;> rfl) ((?_ : ea_E G F_X12_weeks (0, rZ, mZ) 0 [some (.ref 272), some (.int p1), none, none] [] m 0 0 (f_X12_weeks p1 m) (fun t => t = (rZ, mZ))) (rZ, mZ) hZ rfl)
  have hR : ∀ t : Int32 × ea_M, t = (rZ, mZ) → ((0, rZ, mZ) : ea_O) = (0, t) := fun t h => by rw [h]
  unfold f_X12_weeks
  refine ev_aload_n (ea_at dt_X12_weeks 0 rfl) rfl ?_
  refine ev_iconst (ea_at dt_X12_weeks 1 rfl) ic_0 ?_
  refine ev_putI (ea_at dt_X12_weeks 2 rfl) fl_X12_3 fp_12_0 sh_272 rfl ?_
  refine ev_m (fun m1 => ?_)
  refine ev_aload_n (ea_at dt_X12_weeks 3 rfl) rfl ?_
  refine ev_iload_n (ea_at dt_X12_weeks 4 rfl) rfl ?_
  refine ev_iconst (ea_at dt_X12_weeks 5 rfl) ic_1 ?_
  refine ev_bipush (ea_at dt_X12_weeks 6 rfl) bp_60 ?_
  refine ev_clI (F1 := F_X12_in) (fun rY mY hY => ea_runS (As := [.int p1, .int 1, .int 60]) (ea_at dt_X12_weeks 7 rfl) ml_X12_78 mv_X12_in (ok_X12_in G p1 1 60 m1  rY mY hY) rfl rfl (Nat.le_of_ble_eq_true rfl) rfl) rfl (fun r3 m2 => ?_)
  refine ev_if_ne (tgt := 20) (ea_at dt_X12_weeks 8 rfl) rfl (fun _ => ?_) (fun _ => ?_)
  · refine ev_iconst (ea_at dt_X12_weeks 9 rfl) ic_1 ?_
    refine ev_goto (tgt := 21) (ea_at dt_X12_weeks 10 rfl) rfl ?_
    exact ev_drop (l' := [some (.ref 272), some (.int p1), none, none]) ⟨Or.inr rfl, Or.inr rfl, Or.inl rfl, Or.inl rfl, trivial⟩ (jn_X12_weeks_21 G p1 1 m2  hR)
  · refine ev_iconst (ea_at dt_X12_weeks 11 rfl) ic_0 ?_
    exact ev_drop (l' := [some (.ref 272), some (.int p1), none, none]) ⟨Or.inr rfl, Or.inr rfl, Or.inl rfl, Or.inl rfl, trivial⟩ (jn_X12_weeks_21 G p1 0 m2  hR)
def F_X12_isTold : ea_F := (ea_rm 9 0 0, cX12_isTold, RX12, some .boolean, 3, [], 0, 0)
def D_X12_isTold : List (Nat × Instr × Nat) := [(0, .aload_n 0, 1), (1, .getfield 95, 3), (4, .iconst 2, 1), (5, .irem, 1), (6, .ifCond .ne 16, 3), (9, .aload_n 0, 1), (10, .getfield 95, 3), (13, .bipush 40, 2), (15, .if_icmp .gt 7, 3), (18, .iconst 1, 1), (19, .goto 4, 3), (22, .iconst 0, 1), (23, .istore_n 1, 1), (24, .iconst 0, 1), (25, .istore_n 2, 1), (26, .iload_n 2, 1), (27, .aload_n 0, 1), (28, .getfield 95, 3), (31, .if_icmp .ge 49, 3), (34, .iload_n 1, 1), (35, .ifCond .eq 45, 3), (38, .aload_n 0, 1), (39, .getfield 29, 3), (42, .iload_n 2, 1), (43, .baload, 1), (44, .iconst 0, 1), (45, .iconst 5, 1), (46, .invokestatic 78, 3), (49, .ifCond .eq 23, 3), (52, .aload_n 0, 1), (53, .getfield 29, 3), (56, .iload_n 2, 1), (57, .iconst 1, 1), (58, .iadd, 1), (59, .baload, 1), (60, .iconst 0, 1), (61, .iconst 1, 1), (62, .invokestatic 78, 3), (65, .ifCond .eq 7, 3), (68, .iconst 1, 1), (69, .goto 4, 3), (72, .iconst 0, 1), (73, .istore_n 1, 1), (74, .iinc 2 2, 3), (77, .goto (-51), 3), (80, .iload_n 1, 1), (81, .ireturn, 1)]
theorem dt_X12_isTold : ∀ q ∈ D_X12_isTold, decode cX12_isTold q.1 = .ok q.2 := by decide +kernel
theorem mv_X12_isTold : ea_MV yX12_isTold (F_X12_isTold) 0 := ⟨⟨List.mem_append_right _ (List.mem_of_getElem? (i := 13) (by decide +kernel)), List.mem_append_right _ (List.mem_of_getElem? (i := 1977) (by decide +kernel)), ⟨by decide, by decide⟩, by decide +kernel⟩, List.mem_append_right _ (List.mem_of_getElem? (i := 1976) (by decide +kernel)), List.mem_append_left _ (List.mem_of_getElem? (i := 113) (by decide +kernel))⟩
def f_X12_isTold_j73 (x13 : Int32) (x14 : Int32) (m15 : ea_M) : Option ((Int32 × Int32 × ea_M) ⊕ (Int32 × ea_M)) :=
  some (.inl (x14, x13 + 2, m15))
def f_X12_isTold_j72 (x11 : Int32) (m12 : ea_M) : Option ((Int32 × Int32 × ea_M) ⊕ (Int32 × ea_M)) :=
  f_X12_isTold_j73 x11 0 m12
def f_X12_isTold_s26  (s26 : Int32 × Int32 × ea_M) : Option ((Int32 × Int32 × ea_M) ⊕ (Int32 × ea_M)) :=
  ea_bd (s26.2.2 272 11) fun x7 =>
  if x7 ≤ s26.2.1 then
  some (.inr (s26.1, s26.2.2))
  else
  if s26.1 = 0 then
  some (.inr (s26.1, s26.2.2))
  else
  ea_g s26.2.1 400 (ea_bd (s26.2.2 278 (Int32.toNatClampNeg s26.2.1)) fun x8 =>
  ea_cl (f_X12_in x8 0 5 s26.2.2) fun r10 m9 =>
  if r10 = 0 then
  f_X12_isTold_j72 s26.2.1 m9
  else
  ea_g (s26.2.1 + 1) 400 (ea_bd (m9 278 (Int32.toNatClampNeg (s26.2.1 + 1))) fun x16 =>
  ea_cl (f_X12_in x16 0 1 m9) fun r18 m17 =>
  if r18 = 0 then
  f_X12_isTold_j72 s26.2.1 m17
  else
  f_X12_isTold_j73 s26.2.1 1 m17))
def f_X12_isTold_j23 (x5 : Int32) (m6 : ea_M) : Option (Int32 × ea_M) :=
  (ea_loop f_X12_isTold_s26 ea_fuel (x5, 0, m6)).bind (fun x26s =>
  ea_gz x26s.1 (some (x26s.1, x26s.2)))
def f_X12_isTold_j22 (m4 : ea_M) : Option (Int32 × ea_M) :=
  f_X12_isTold_j23 0 m4
def f_X12_isTold (m : ea_M) : Option (Int32 × ea_M) :=
  ea_bd (m 272 11) fun x1 =>
  ea_bd (x1 - x1 / 2 * 2) fun x2 =>
  if x2 = 0 then
  ea_bd (m 272 11) fun x3 =>
  if 40 < x3 then
  f_X12_isTold_j22 m
  else
  f_X12_isTold_j23 1 m
  else
  f_X12_isTold_j22 m
set_option maxHeartbeats 300000 in
theorem jn_X12_isTold_73 (G : ea_G) {res : ea_O}  (x13 : Int32) (x14 : Int32) (m15 : ea_M)  {Φ : ((Int32 × Int32 × ea_M) ⊕ (Int32 × ea_M)) → Prop} (hC : ∀ s26 : Int32 × Int32 × ea_M, Φ (.inl s26) → ea_Ev G F_X12_isTold res 26 [some (.ref 272), some (.int s26.1), some (.int s26.2.1)] [] s26.2.2 0 0) (hX : ∀ x26s : Int32 × ea_M, Φ (.inr x26s) → ea_Ev G F_X12_isTold res 80 [none, some (.int x26s.1), none] [] x26s.2 0 0) : ea_E G F_X12_isTold res 73 [some (.ref 272), none, some (.int x13)] [.int x14] m15 0 0 (f_X12_isTold_j73 x13 x14 m15) Φ := by
  unfold f_X12_isTold_j73
  refine ev_istore_n (ls' := [some (.ref 272), some (.int x14), some (.int x13)]) (ea_at dt_X12_isTold 42 rfl) (ea_lt rfl) rfl ?_
  refine ev_iinc (ls' := [some (.ref 272), some (.int x14), some (.int (x13 + 2))]) (ea_at dt_X12_isTold 43 rfl) rfl (congrArg (fun z => _ + z) ic_2) (ea_lt rfl) rfl ?_
  refine ev_goto (tgt := 26) (ea_at dt_X12_isTold 44 rfl) rfl ?_
  exact ev_leaf (fun h => ea_drop (l' := [some (.ref 272), some (.int x14), some (.int (x13 + 2))]) ⟨Or.inr rfl, Or.inr rfl, Or.inr rfl, trivial⟩ (hC (x14, x13 + 2, m15) h))
set_option maxHeartbeats 300000 in
theorem jn_X12_isTold_72 (G : ea_G) {res : ea_O}  (x11 : Int32) (m12 : ea_M)  {Φ : ((Int32 × Int32 × ea_M) ⊕ (Int32 × ea_M)) → Prop} (hC : ∀ s26 : Int32 × Int32 × ea_M, Φ (.inl s26) → ea_Ev G F_X12_isTold res 26 [some (.ref 272), some (.int s26.1), some (.int s26.2.1)] [] s26.2.2 0 0) (hX : ∀ x26s : Int32 × ea_M, Φ (.inr x26s) → ea_Ev G F_X12_isTold res 80 [none, some (.int x26s.1), none] [] x26s.2 0 0) : ea_E G F_X12_isTold res 72 [some (.ref 272), none, some (.int x11)] [] m12 0 0 (f_X12_isTold_j72 x11 m12) Φ := by
  unfold f_X12_isTold_j72
  refine ev_iconst (ea_at dt_X12_isTold 41 rfl) ic_0 ?_
  exact ev_drop (l' := [some (.ref 272), none, some (.int x11)]) ⟨Or.inr rfl, Or.inl rfl, Or.inr rfl, trivial⟩ (jn_X12_isTold_73 G x11 0 m12  hC hX)
set_option maxHeartbeats 300000 in
theorem lp_X12_isTold_26 (G : ea_G) {res : ea_O}    {Ψ : (Int32 × ea_M) → Prop} (hX : ∀ x26s : Int32 × ea_M, Ψ x26s → ea_Ev G F_X12_isTold res 80 [none, some (.int x26s.1), none] [] x26s.2 0 0) : ∀ (f : Nat) (s26 : Int32 × Int32 × ea_M), ea_E G F_X12_isTold res 26 [some (.ref 272), some (.int s26.1), some (.int s26.2.1)] [] s26.2.2 0 0 (ea_loop f_X12_isTold_s26 f s26) Ψ := by
  refine ev_loop (G := G) (F := F_X12_isTold) (res := res) (pc := 26) (st := []) (k := 0) (n := 0) (step := f_X12_isTold_s26) (Ψ := Ψ) (fun (s26 : Int32 × Int32 × ea_M) => [some (.ref 272), some (.int s26.1), some (.int s26.2.1)]) (fun (s26 : Int32 × Int32 × ea_M) => s26.2.2) (fun s26 => ?_)
  have hC : ∀ s26 : Int32 × Int32 × ea_M, (Sum.elim (fun s26 : Int32 × Int32 × ea_M => ea_Ev G F_X12_isTold res 26 [some (.ref 272), some (.int s26.1), some (.int s26.2.1)] [] s26.2.2 0 0) Ψ) (.inl s26) → ea_Ev G F_X12_isTold res 26 [some (.ref 272), some (.int s26.1), some (.int s26.2.1)] [] s26.2.2 0 0 := fun _ h => h
  have hX : ∀ x26s : Int32 × ea_M, (Sum.elim (fun s26 : Int32 × Int32 × ea_M => ea_Ev G F_X12_isTold res 26 [some (.ref 272), some (.int s26.1), some (.int s26.2.1)] [] s26.2.2 0 0) Ψ) (.inr x26s) → ea_Ev G F_X12_isTold res 80 [none, some (.int x26s.1), none] [] x26s.2 0 0 := hX
  unfold f_X12_isTold_s26
  refine ev_iload_n (ea_at dt_X12_isTold 15 rfl) rfl ?_
  refine ev_aload_n (ea_at dt_X12_isTold 16 rfl) rfl ?_
  refine ev_getI (ea_at dt_X12_isTold 17 rfl) fl_X12_95 sh_272 rfl ?_
  refine ev_i (fun x7 => ?_)
  refine ev_icmp_ge (tgt := 80) (ea_at dt_X12_isTold 18 rfl) rfl (fun _ => ?_) (fun _ => ?_)
  · exact ev_leaf (fun h => ea_drop (l' := [none, some (.int s26.1), none]) ⟨Or.inl rfl, Or.inr rfl, Or.inl rfl, trivial⟩ (hX (s26.1, s26.2.2) h))
  · refine ev_iload_n (ea_at dt_X12_isTold 19 rfl) rfl ?_
    refine ev_if_eq (tgt := 80) (ea_at dt_X12_isTold 20 rfl) rfl (fun _ => ?_) (fun _ => ?_)
    · exact ev_leaf (fun h => ea_drop (l' := [none, some (.int s26.1), none]) ⟨Or.inl rfl, Or.inr rfl, Or.inl rfl, trivial⟩ (hX (s26.1, s26.2.2) h))
    · refine ev_aload_n (ea_at dt_X12_isTold 21 rfl) rfl ?_
      refine ev_getR (ea_at dt_X12_isTold 22 rfl) fl_X12_29 sh_272 rfl ?_
      refine ev_iload_n (ea_at dt_X12_isTold 23 rfl) rfl ?_
      refine ev_baload (ea_at dt_X12_isTold 24 rfl) sh_278 ?_
      refine ev_i (fun x8 => ?_)
      refine ev_iconst (ea_at dt_X12_isTold 25 rfl) ic_0 ?_
      refine ev_iconst (ea_at dt_X12_isTold 26 rfl) ic_5 ?_
      refine ev_clI (F1 := F_X12_in) (fun rY mY hY => ea_runS (As := [.int x8, .int 0, .int 5]) (ea_at dt_X12_isTold 27 rfl) ml_X12_78 mv_X12_in (ok_X12_in G x8 0 5 s26.2.2  rY mY hY) rfl rfl (Nat.le_of_ble_eq_true rfl) rfl) rfl (fun r10 m9 => ?_)
      refine ev_if_eq (tgt := 72) (ea_at dt_X12_isTold 28 rfl) rfl (fun _ => ?_) (fun _ => ?_)
      · exact ev_drop (l' := [some (.ref 272), none, some (.int s26.2.1)]) ⟨Or.inr rfl, Or.inl rfl, Or.inr rfl, trivial⟩ (jn_X12_isTold_72 G s26.2.1 m9  hC hX)
      · refine ev_aload_n (ea_at dt_X12_isTold 29 rfl) rfl ?_
        refine ev_getR (ea_at dt_X12_isTold 30 rfl) fl_X12_29 sh_272 rfl ?_
        refine ev_iload_n (ea_at dt_X12_isTold 31 rfl) rfl ?_
        refine ev_iconst (ea_at dt_X12_isTold 32 rfl) ic_1 ?_
        refine ev_iadd (ea_at dt_X12_isTold 33 rfl) ?_
        refine ev_baload (ea_at dt_X12_isTold 34 rfl) sh_278 ?_
        refine ev_i (fun x16 => ?_)
        refine ev_iconst (ea_at dt_X12_isTold 35 rfl) ic_0 ?_
        refine ev_iconst (ea_at dt_X12_isTold 36 rfl) ic_1 ?_
        refine ev_clI (F1 := F_X12_in) (fun rY mY hY => ea_runS (As := [.int x16, .int 0, .int 1]) (ea_at dt_X12_isTold 37 rfl) ml_X12_78 mv_X12_in (ok_X12_in G x16 0 1 m9  rY mY hY) rfl rfl (Nat.le_of_ble_eq_true rfl) rfl) rfl (fun r18 m17 => ?_)
        refine ev_if_eq (tgt := 72) (ea_at dt_X12_isTold 38 rfl) rfl (fun _ => ?_) (fun _ => ?_)
        · exact ev_drop (l' := [some (.ref 272), none, some (.int s26.2.1)]) ⟨Or.inr rfl, Or.inl rfl, Or.inr rfl, trivial⟩ (jn_X12_isTold_72 G s26.2.1 m17  hC hX)
        · refine ev_iconst (ea_at dt_X12_isTold 39 rfl) ic_1 ?_
          refine ev_goto (tgt := 73) (ea_at dt_X12_isTold 40 rfl) rfl ?_
          exact ev_drop (l' := [some (.ref 272), none, some (.int s26.2.1)]) ⟨Or.inr rfl, Or.inl rfl, Or.inr rfl, trivial⟩ (jn_X12_isTold_73 G s26.2.1 1 m17  hC hX)
set_option maxHeartbeats 300000 in
theorem jn_X12_isTold_23 (G : ea_G) {res : ea_O}  (x5 : Int32) (m6 : ea_M)  {Φ : (Int32 × ea_M) → Prop} (hR : ∀ t : Int32 × ea_M, Φ t → res = (0, t)) : ea_E G F_X12_isTold res 23 [some (.ref 272), none, none] [.int x5] m6 0 0 (f_X12_isTold_j23 x5 m6) Φ := by
  unfold f_X12_isTold_j23
  refine ev_istore_n (ls' := [some (.ref 272), some (.int x5), none]) (ea_at dt_X12_isTold 12 rfl) (ea_lt rfl) rfl ?_
  refine ev_iconst (ea_at dt_X12_isTold 13 rfl) ic_0 ?_
  refine ev_istore_n (ls' := [some (.ref 272), some (.int x5), some (.int 0)]) (ea_at dt_X12_isTold 14 rfl) (ea_lt rfl) rfl ?_
  refine ev_drop (l' := [some (.ref 272), some (.int x5), some (.int 0)]) ⟨Or.inr rfl, Or.inr rfl, Or.inr rfl, trivial⟩ ?_
  refine ev_bind (lp_X12_isTold_26 G   (fun x26s h => ?_) ea_fuel (x5, 0, m6))
  obtain ⟨t1, e1, q1⟩ := h
  refine (?_ : ea_E G F_X12_isTold res 80 [none, some (.int x26s.1), none] [] x26s.2 0 0 _ Φ) t1 e1 q1
  refine ev_iload_n (ea_at dt_X12_isTold 45 rfl) rfl ?_
  exact ev_zretG (ea_at dt_X12_isTold 46 rfl) rfl ⟨by decide, by decide⟩ (fun h => hR _ h)
set_option maxHeartbeats 300000 in
theorem jn_X12_isTold_22 (G : ea_G) {res : ea_O}  (m4 : ea_M)  {Φ : (Int32 × ea_M) → Prop} (hR : ∀ t : Int32 × ea_M, Φ t → res = (0, t)) : ea_E G F_X12_isTold res 22 [some (.ref 272), none, none] [] m4 0 0 (f_X12_isTold_j22 m4) Φ := by
  unfold f_X12_isTold_j22
  refine ev_iconst (ea_at dt_X12_isTold 11 rfl) ic_0 ?_
  exact ev_drop (l' := [some (.ref 272), none, none]) ⟨Or.inr rfl, Or.inl rfl, Or.inl rfl, trivial⟩ (jn_X12_isTold_23 G 0 m4  hR)
set_option maxHeartbeats 300000 in
theorem ok_X12_isTold (G : ea_G) (m : ea_M)  (rZ : Int32) (mZ : ea_M) (hZ : f_X12_isTold m = some (rZ, mZ)) : ea_Met G yX12_isTold F_X12_isTold [.ref 272] m (0, rZ, mZ) := by
  refine ea_met (F := F_X12_isTold) (by decide +kernel) rfl rfl (Nat.le_of_ble_eq_true rfl) (by simp only [List.mem_cons, List.not_mem_nil, or_false]; intro v hv; rcases hv with rfl <;> rfl) ((?_ : ea_E G F_X12_isTold (0, rZ, mZ) 0 [some (.ref 272), none, none] [] m 0 0 (f_X12_isTold m) (fun t => t = (rZ, mZ))) (rZ, mZ) hZ rfl)
  have hR : ∀ t : Int32 × ea_M, t = (rZ, mZ) → ((0, rZ, mZ) : ea_O) = (0, t) := fun t h => by rw [h]
  unfold f_X12_isTold
  refine ev_aload_n (ea_at dt_X12_isTold 0 rfl) rfl ?_
  refine ev_getI (ea_at dt_X12_isTold 1 rfl) fl_X12_95 sh_272 rfl ?_
  refine ev_i (fun x1 => ?_)
  refine ev_iconst (ea_at dt_X12_isTold 2 rfl) ic_2 ?_
  refine ev_irem (ea_at dt_X12_isTold 3 rfl) (by decide) ?_
  refine ev_i (fun x2 => ?_)
  refine ev_if_ne (tgt := 22) (ea_at dt_X12_isTold 4 rfl) rfl (fun _ => ?_) (fun _ => ?_)
  · refine ev_aload_n (ea_at dt_X12_isTold 5 rfl) rfl ?_
    refine ev_getI (ea_at dt_X12_isTold 6 rfl) fl_X12_95 sh_272 rfl ?_
    refine ev_i (fun x3 => ?_)
    refine ev_bipush (ea_at dt_X12_isTold 7 rfl) bp_40 ?_
    refine ev_icmp_gt (tgt := 22) (ea_at dt_X12_isTold 8 rfl) rfl (fun _ => ?_) (fun _ => ?_)
    · exact ev_drop (l' := [some (.ref 272), none, none]) ⟨Or.inr rfl, Or.inl rfl, Or.inl rfl, trivial⟩ (jn_X12_isTold_22 G m  hR)
    · refine ev_iconst (ea_at dt_X12_isTold 9 rfl) ic_1 ?_
      refine ev_goto (tgt := 23) (ea_at dt_X12_isTold 10 rfl) rfl ?_
      exact ev_drop (l' := [some (.ref 272), none, none]) ⟨Or.inr rfl, Or.inl rfl, Or.inl rfl, trivial⟩ (jn_X12_isTold_23 G 1 m  hR)
  · exact ev_drop (l' := [some (.ref 272), none, none]) ⟨Or.inr rfl, Or.inl rfl, Or.inl rfl, trivial⟩ (jn_X12_isTold_22 G m  hR)
def F_X12_songsOf : ea_F := (ea_rm 9 0 0, cX12_songsOf, RX12, some .int, 4, [], 0, 0)
def D_X12_songsOf : List (Nat × Instr × Nat) := [(0, .iconst 0, 1), (1, .istore_n 2, 1), (2, .iconst 0, 1), (3, .istore_n 3, 1), (4, .iload_n 3, 1), (5, .aload_n 0, 1), (6, .invokevirtual 74, 3), (9, .if_icmp .ge 30, 3), (12, .iload_n 2, 1), (13, .iload_n 1, 1), (14, .iload_n 3, 1), (15, .invokestatic 127, 3), (18, .ifCond .eq 12, 3), (21, .aload_n 0, 1), (22, .iload_n 3, 1), (23, .iconst 2, 1), (24, .invokevirtual 277, 3), (27, .goto 4, 3), (30, .iconst 0, 1), (31, .ior, 1), (32, .istore_n 2, 1), (33, .iinc 3 1, 3), (36, .goto (-32), 3), (39, .iload_n 2, 1), (40, .ireturn, 1)]
theorem dt_X12_songsOf : ∀ q ∈ D_X12_songsOf, decode cX12_songsOf q.1 = .ok q.2 := by decide +kernel
theorem mv_X12_songsOf : ea_MV yX12_songsOf (F_X12_songsOf) 1 := ⟨⟨List.mem_append_right _ (List.mem_of_getElem? (i := 13) (by decide +kernel)), List.mem_append_right _ (List.mem_of_getElem? (i := 1985) (by decide +kernel)), ⟨by decide, by decide⟩, by decide +kernel⟩, List.mem_append_right _ (List.mem_of_getElem? (i := 1984) (by decide +kernel)), List.mem_append_left _ (List.mem_of_getElem? (i := 115) (by decide +kernel))⟩
def f_X12_songsOf_j31 (p1 : Int32) (x5 : Int32) (x6 : Int32) (x7 : Int32) (m8 : ea_M) : Option ((Int32 × Int32 × ea_M) ⊕ (Int32 × ea_M)) :=
  ea_bd (x6 ||| x7) fun x9 =>
  some (.inl (x9, x5 + 1, m8))
def f_X12_songsOf_s4 (p1 : Int32)  (s4 : Int32 × Int32 × ea_M) : Option ((Int32 × Int32 × ea_M) ⊕ (Int32 × ea_M)) :=
  ea_cl (f_X12_birds s4.2.2) fun r2 m1 =>
  if r2 ≤ s4.2.1 then
  some (.inr (s4.1, m1))
  else
  ea_cl (f_X12_has p1 s4.2.1 m1) fun r4 m3 =>
  if r4 = 0 then
  f_X12_songsOf_j31 p1 s4.2.1 s4.1 0 m3
  else
  ea_cl (f_X12_ofBird s4.2.1 2 m3) fun r11 m10 =>
  f_X12_songsOf_j31 p1 s4.2.1 s4.1 r11 m10
def f_X12_songsOf (p1 : Int32) (m : ea_M) : Option (Int32 × ea_M) :=
  (ea_loop (f_X12_songsOf_s4 p1) ea_fuel (0, 0, m)).bind (fun x4s =>
  some (x4s.1, x4s.2))
set_option maxHeartbeats 300000 in
theorem jn_X12_songsOf_31 (G : ea_G) {res : ea_O}  (p1 : Int32) (x5 : Int32) (x6 : Int32) (x7 : Int32) (m8 : ea_M)  {Φ : ((Int32 × Int32 × ea_M) ⊕ (Int32 × ea_M)) → Prop} (hC : ∀ s4 : Int32 × Int32 × ea_M, Φ (.inl s4) → ea_Ev G F_X12_songsOf res 4 [some (.ref 272), some (.int p1), some (.int s4.1), some (.int s4.2.1)] [] s4.2.2 0 0) (hX : ∀ x4s : Int32 × ea_M, Φ (.inr x4s) → ea_Ev G F_X12_songsOf res 39 [none, none, some (.int x4s.1), none] [] x4s.2 0 0) : ea_E G F_X12_songsOf res 31 [some (.ref 272), some (.int p1), none, some (.int x5)] [.int x7, .int x6] m8 0 0 (f_X12_songsOf_j31 p1 x5 x6 x7 m8) Φ := by
  unfold f_X12_songsOf_j31
  refine ev_ior (ea_at dt_X12_songsOf 19 rfl) ?_
  refine ev_i (fun x9 => ?_)
  refine ev_istore_n (ls' := [some (.ref 272), some (.int p1), some (.int x9), some (.int x5)]) (ea_at dt_X12_songsOf 20 rfl) (ea_lt rfl) rfl ?_
  refine ev_iinc (ls' := [some (.ref 272), some (.int p1), some (.int x9), some (.int (x5 + 1))]) (ea_at dt_X12_songsOf 21 rfl) rfl (congrArg (fun z => _ + z) ic_1) (ea_lt rfl) rfl ?_
  refine ev_goto (tgt := 4) (ea_at dt_X12_songsOf 22 rfl) rfl ?_
  exact ev_leaf (fun h => ea_drop (l' := [some (.ref 272), some (.int p1), some (.int x9), some (.int (x5 + 1))]) ⟨Or.inr rfl, Or.inr rfl, Or.inr rfl, Or.inr rfl, trivial⟩ (hC (x9, x5 + 1, m8) h))
set_option maxHeartbeats 300000 in
theorem lp_X12_songsOf_4 (G : ea_G) {res : ea_O}  (p1 : Int32)  {Ψ : (Int32 × ea_M) → Prop} (hX : ∀ x4s : Int32 × ea_M, Ψ x4s → ea_Ev G F_X12_songsOf res 39 [none, none, some (.int x4s.1), none] [] x4s.2 0 0) : ∀ (f : Nat) (s4 : Int32 × Int32 × ea_M), ea_E G F_X12_songsOf res 4 [some (.ref 272), some (.int p1), some (.int s4.1), some (.int s4.2.1)] [] s4.2.2 0 0 (ea_loop (f_X12_songsOf_s4 p1) f s4) Ψ := by
  refine ev_loop (G := G) (F := F_X12_songsOf) (res := res) (pc := 4) (st := []) (k := 0) (n := 0) (step := (f_X12_songsOf_s4 p1)) (Ψ := Ψ) (fun (s4 : Int32 × Int32 × ea_M) => [some (.ref 272), some (.int p1), some (.int s4.1), some (.int s4.2.1)]) (fun (s4 : Int32 × Int32 × ea_M) => s4.2.2) (fun s4 => ?_)
  have hC : ∀ s4 : Int32 × Int32 × ea_M, (Sum.elim (fun s4 : Int32 × Int32 × ea_M => ea_Ev G F_X12_songsOf res 4 [some (.ref 272), some (.int p1), some (.int s4.1), some (.int s4.2.1)] [] s4.2.2 0 0) Ψ) (.inl s4) → ea_Ev G F_X12_songsOf res 4 [some (.ref 272), some (.int p1), some (.int s4.1), some (.int s4.2.1)] [] s4.2.2 0 0 := fun _ h => h
  have hX : ∀ x4s : Int32 × ea_M, (Sum.elim (fun s4 : Int32 × Int32 × ea_M => ea_Ev G F_X12_songsOf res 4 [some (.ref 272), some (.int p1), some (.int s4.1), some (.int s4.2.1)] [] s4.2.2 0 0) Ψ) (.inr x4s) → ea_Ev G F_X12_songsOf res 39 [none, none, some (.int x4s.1), none] [] x4s.2 0 0 := hX
  unfold f_X12_songsOf_s4
  refine ev_iload_n (ea_at dt_X12_songsOf 4 rfl) rfl ?_
  refine ev_aload_n (ea_at dt_X12_songsOf 5 rfl) rfl ?_
  refine ev_clI (F1 := F_X12_birds) (fun rY mY hY => ea_runV (As := []) (ea_at dt_X12_songsOf 6 rfl) ml_X12_74 mv_X12_birds (ok_X12_birds G s4.2.2  rY mY hY) sh_272 rfl rfl rfl (Nat.le_of_ble_eq_true rfl) rfl) rfl (fun r2 m1 => ?_)
  refine ev_icmp_ge (tgt := 39) (ea_at dt_X12_songsOf 7 rfl) rfl (fun _ => ?_) (fun _ => ?_)
  · exact ev_leaf (fun h => ea_drop (l' := [none, none, some (.int s4.1), none]) ⟨Or.inl rfl, Or.inl rfl, Or.inr rfl, Or.inl rfl, trivial⟩ (hX (s4.1, m1) h))
  · refine ev_iload_n (ea_at dt_X12_songsOf 8 rfl) rfl ?_
    refine ev_iload_n (ea_at dt_X12_songsOf 9 rfl) rfl ?_
    refine ev_iload_n (ea_at dt_X12_songsOf 10 rfl) rfl ?_
    refine ev_clI (F1 := F_X12_has) (fun rY mY hY => ea_runS (As := [.int p1, .int s4.2.1]) (ea_at dt_X12_songsOf 11 rfl) ml_X12_127 mv_X12_has (ok_X12_has G p1 s4.2.1 m1  rY mY hY) rfl rfl (Nat.le_of_ble_eq_true rfl) rfl) rfl (fun r4 m3 => ?_)
    refine ev_if_eq (tgt := 30) (ea_at dt_X12_songsOf 12 rfl) rfl (fun _ => ?_) (fun _ => ?_)
    · refine ev_iconst (ea_at dt_X12_songsOf 18 rfl) ic_0 ?_
      exact ev_drop (l' := [some (.ref 272), some (.int p1), none, some (.int s4.2.1)]) ⟨Or.inr rfl, Or.inr rfl, Or.inl rfl, Or.inr rfl, trivial⟩ (jn_X12_songsOf_31 G p1 s4.2.1 s4.1 0 m3  hC hX)
    · refine ev_aload_n (ea_at dt_X12_songsOf 13 rfl) rfl ?_
      refine ev_iload_n (ea_at dt_X12_songsOf 14 rfl) rfl ?_
      refine ev_iconst (ea_at dt_X12_songsOf 15 rfl) ic_2 ?_
      refine ev_clI (F1 := F_X12_ofBird) (fun rY mY hY => ea_runV (As := [.int s4.2.1, .int 2]) (ea_at dt_X12_songsOf 16 rfl) ml_X12_277 mv_X12_ofBird (ok_X12_ofBird G s4.2.1 2 m3  rY mY hY) sh_272 rfl rfl rfl (Nat.le_of_ble_eq_true rfl) rfl) rfl (fun r11 m10 => ?_)
      refine ev_goto (tgt := 31) (ea_at dt_X12_songsOf 17 rfl) rfl ?_
      exact ev_drop (l' := [some (.ref 272), some (.int p1), none, some (.int s4.2.1)]) ⟨Or.inr rfl, Or.inr rfl, Or.inl rfl, Or.inr rfl, trivial⟩ (jn_X12_songsOf_31 G p1 s4.2.1 s4.1 r11 m10  hC hX)
set_option maxHeartbeats 300000 in
theorem ok_X12_songsOf (G : ea_G) (p1 : Int32) (m : ea_M)  (rZ : Int32) (mZ : ea_M) (hZ : f_X12_songsOf p1 m = some (rZ, mZ)) : ea_Met G yX12_songsOf F_X12_songsOf [.ref 272, .int p1] m (0, rZ, mZ) := by
  refine ea_met (F := F_X12_songsOf) (by decide +kernel) rfl rfl (Nat.le_of_ble_eq_true rfl) (by simp only [List.mem_cons, List.not_mem_nil, or_false]; intro v hv; rcases hv with rfl | rfl <;> rfl) ((?_ : ea_E G F_X12_songsOf (0, rZ, mZ) 0 [some (.ref 272), some (.int p1), none, none] [] m 0 0 (f_X12_songsOf p1 m) (fun t => t = (rZ, mZ))) (rZ, mZ) hZ rfl)
  have hR : ∀ t : Int32 × ea_M, t = (rZ, mZ) → ((0, rZ, mZ) : ea_O) = (0, t) := fun t h => by rw [h]
  unfold f_X12_songsOf
  refine ev_iconst (ea_at dt_X12_songsOf 0 rfl) ic_0 ?_
  refine ev_istore_n (ls' := [some (.ref 272), some (.int p1), some (.int 0), none]) (ea_at dt_X12_songsOf 1 rfl) (ea_lt rfl) rfl ?_
  refine ev_iconst (ea_at dt_X12_songsOf 2 rfl) ic_0 ?_
  refine ev_istore_n (ls' := [some (.ref 272), some (.int p1), some (.int 0), some (.int 0)]) (ea_at dt_X12_songsOf 3 rfl) (ea_lt rfl) rfl ?_
  refine ev_drop (l' := [some (.ref 272), some (.int p1), some (.int 0), some (.int 0)]) ⟨Or.inr rfl, Or.inr rfl, Or.inr rfl, Or.inr rfl, trivial⟩ ?_
  refine ev_bind (lp_X12_songsOf_4 G p1   (fun x4s h => ?_) ea_fuel (0, 0, m))
  obtain ⟨t1, e1, q1⟩ := h
  refine (?_ : ea_E G F_X12_songsOf (0, rZ, mZ) 39 [none, none, some (.int x4s.1), none] [] x4s.2 0 0 _ (fun t => t = (rZ, mZ))) t1 e1 q1
  refine ev_iload_n (ea_at dt_X12_songsOf 23 rfl) rfl ?_
  exact ev_iret (ea_at dt_X12_songsOf 24 rfl) rfl ⟨by decide, by decide⟩ (fun h => hR _ h)
def F_X12_fits : ea_F := (ea_rm 10 0 0, cX12_fits, RX12, some .boolean, 5, [], 0, 0)
def D_X12_fits : List (Nat × Instr × Nat) := [(0, .aload_n 0, 1), (1, .iload_n 1, 1), (2, .invokevirtual 435, 3), (5, .istore_n 2, 1), (6, .iconst 1, 1), (7, .istore_n 3, 1), (8, .iconst 0, 1), (9, .istore 4, 2), (11, .iload 4, 2), (13, .aload_n 0, 1), (14, .getfield 95, 3), (17, .if_icmp .ge 51, 3), (20, .iload_n 3, 1), (21, .ifCond .eq 39, 3), (24, .iload_n 2, 1), (25, .aload_n 0, 1), (26, .getfield 29, 3), (29, .iload 4, 2), (31, .baload, 1), (32, .invokestatic 127, 3), (35, .aload_n 0, 1), (36, .getfield 29, 3), (39, .iload 4, 2), (41, .iconst 1, 1), (42, .iadd, 1), (43, .baload, 1), (44, .iconst 1, 1), (45, .if_icmp .ne 7, 3), (48, .iconst 1, 1), (49, .goto 4, 3), (52, .iconst 0, 1), (53, .if_icmp .ne 7, 3), (56, .iconst 1, 1), (57, .goto 4, 3), (60, .iconst 0, 1), (61, .istore_n 3, 1), (62, .iinc 4 2, 3), (65, .goto (-54), 3), (68, .iload_n 3, 1), (69, .ireturn, 1)]
theorem dt_X12_fits : ∀ q ∈ D_X12_fits, decode cX12_fits q.1 = .ok q.2 := by decide +kernel
theorem mv_X12_fits : ea_MV yX12_fits (F_X12_fits) 1 := ⟨⟨List.mem_append_right _ (List.mem_of_getElem? (i := 13) (by decide +kernel)), List.mem_append_right _ (List.mem_of_getElem? (i := 1981) (by decide +kernel)), ⟨by decide, by decide⟩, by decide +kernel⟩, List.mem_append_right _ (List.mem_of_getElem? (i := 1980) (by decide +kernel)), List.mem_append_left _ (List.mem_of_getElem? (i := 114) (by decide +kernel))⟩
def f_X12_fits_j61 (r2 : Int32) (x6 : Int32) (x7 : Int32) (m8 : ea_M) : Option ((Int32 × Int32 × ea_M) ⊕ (Int32 × ea_M)) :=
  some (.inl (x7, x6 + 2, m8))
def f_X12_fits_j60 (r2 : Int32) (x4 : Int32) (m5 : ea_M) : Option ((Int32 × Int32 × ea_M) ⊕ (Int32 × ea_M)) :=
  f_X12_fits_j61 r2 x4 0 m5
def f_X12_fits_j53 (r2 : Int32) (x13 : Int32) (x14 : Int32) (x15 : Int32) (m16 : ea_M) : Option ((Int32 × Int32 × ea_M) ⊕ (Int32 × ea_M)) :=
  if x14 = x15 then
  f_X12_fits_j61 r2 x13 1 m16
  else
  f_X12_fits_j60 r2 x13 m16
def f_X12_fits_s11 (r2 : Int32)  (s11 : Int32 × Int32 × ea_M) : Option ((Int32 × Int32 × ea_M) ⊕ (Int32 × ea_M)) :=
  ea_bd (s11.2.2 272 11) fun x3 =>
  if x3 ≤ s11.2.1 then
  some (.inr (s11.1, s11.2.2))
  else
  if s11.1 = 0 then
  f_X12_fits_j60 r2 s11.2.1 s11.2.2
  else
  ea_g s11.2.1 400 (ea_bd (s11.2.2 278 (Int32.toNatClampNeg s11.2.1)) fun x9 =>
  ea_cl (f_X12_has r2 x9 s11.2.2) fun r11 m10 =>
  ea_g (s11.2.1 + 1) 400 (ea_bd (m10 278 (Int32.toNatClampNeg (s11.2.1 + 1))) fun x12 =>
  if x12 = 1 then
  f_X12_fits_j53 r2 s11.2.1 r11 1 m10
  else
  f_X12_fits_j53 r2 s11.2.1 r11 0 m10))
def f_X12_fits (p1 : Int32) (m : ea_M) : Option (Int32 × ea_M) :=
  ea_cl (f_X12_songsOf p1 m) fun r2 m1 =>
  (ea_loop (f_X12_fits_s11 r2) ea_fuel (1, 0, m1)).bind (fun x11s =>
  ea_gz x11s.1 (some (x11s.1, x11s.2)))
set_option maxHeartbeats 300000 in
theorem jn_X12_fits_61 (G : ea_G) {res : ea_O}  (r2 : Int32) (x6 : Int32) (x7 : Int32) (m8 : ea_M)  {Φ : ((Int32 × Int32 × ea_M) ⊕ (Int32 × ea_M)) → Prop} (hC : ∀ s11 : Int32 × Int32 × ea_M, Φ (.inl s11) → ea_Ev G F_X12_fits res 11 [some (.ref 272), none, some (.int r2), some (.int s11.1), some (.int s11.2.1)] [] s11.2.2 0 0) (hX : ∀ x11s : Int32 × ea_M, Φ (.inr x11s) → ea_Ev G F_X12_fits res 68 [none, none, none, some (.int x11s.1), none] [] x11s.2 0 0) : ea_E G F_X12_fits res 61 [some (.ref 272), none, some (.int r2), none, some (.int x6)] [.int x7] m8 0 0 (f_X12_fits_j61 r2 x6 x7 m8) Φ := by
  unfold f_X12_fits_j61
  refine ev_istore_n (ls' := [some (.ref 272), none, some (.int r2), some (.int x7), some (.int x6)]) (ea_at dt_X12_fits 35 rfl) (ea_lt rfl) rfl ?_
  refine ev_iinc (ls' := [some (.ref 272), none, some (.int r2), some (.int x7), some (.int (x6 + 2))]) (ea_at dt_X12_fits 36 rfl) rfl (congrArg (fun z => _ + z) ic_2) (ea_lt rfl) rfl ?_
  refine ev_goto (tgt := 11) (ea_at dt_X12_fits 37 rfl) rfl ?_
  exact ev_leaf (fun h => ea_drop (l' := [some (.ref 272), none, some (.int r2), some (.int x7), some (.int (x6 + 2))]) ⟨Or.inr rfl, Or.inl rfl, Or.inr rfl, Or.inr rfl, Or.inr rfl, trivial⟩ (hC (x7, x6 + 2, m8) h))
set_option maxHeartbeats 300000 in
theorem jn_X12_fits_60 (G : ea_G) {res : ea_O}  (r2 : Int32) (x4 : Int32) (m5 : ea_M)  {Φ : ((Int32 × Int32 × ea_M) ⊕ (Int32 × ea_M)) → Prop} (hC : ∀ s11 : Int32 × Int32 × ea_M, Φ (.inl s11) → ea_Ev G F_X12_fits res 11 [some (.ref 272), none, some (.int r2), some (.int s11.1), some (.int s11.2.1)] [] s11.2.2 0 0) (hX : ∀ x11s : Int32 × ea_M, Φ (.inr x11s) → ea_Ev G F_X12_fits res 68 [none, none, none, some (.int x11s.1), none] [] x11s.2 0 0) : ea_E G F_X12_fits res 60 [some (.ref 272), none, some (.int r2), none, some (.int x4)] [] m5 0 0 (f_X12_fits_j60 r2 x4 m5) Φ := by
  unfold f_X12_fits_j60
  refine ev_iconst (ea_at dt_X12_fits 34 rfl) ic_0 ?_
  exact ev_drop (l' := [some (.ref 272), none, some (.int r2), none, some (.int x4)]) ⟨Or.inr rfl, Or.inl rfl, Or.inr rfl, Or.inl rfl, Or.inr rfl, trivial⟩ (jn_X12_fits_61 G r2 x4 0 m5  hC hX)
set_option maxHeartbeats 300000 in
theorem jn_X12_fits_53 (G : ea_G) {res : ea_O}  (r2 : Int32) (x13 : Int32) (x14 : Int32) (x15 : Int32) (m16 : ea_M)  {Φ : ((Int32 × Int32 × ea_M) ⊕ (Int32 × ea_M)) → Prop} (hC : ∀ s11 : Int32 × Int32 × ea_M, Φ (.inl s11) → ea_Ev G F_X12_fits res 11 [some (.ref 272), none, some (.int r2), some (.int s11.1), some (.int s11.2.1)] [] s11.2.2 0 0) (hX : ∀ x11s : Int32 × ea_M, Φ (.inr x11s) → ea_Ev G F_X12_fits res 68 [none, none, none, some (.int x11s.1), none] [] x11s.2 0 0) : ea_E G F_X12_fits res 53 [some (.ref 272), none, some (.int r2), none, some (.int x13)] [.int x15, .int x14] m16 0 0 (f_X12_fits_j53 r2 x13 x14 x15 m16) Φ := by
  unfold f_X12_fits_j53
  refine ev_icmp_ne (tgt := 60) (ea_at dt_X12_fits 31 rfl) rfl (fun _ => ?_) (fun _ => ?_)
  · refine ev_iconst (ea_at dt_X12_fits 32 rfl) ic_1 ?_
    refine ev_goto (tgt := 61) (ea_at dt_X12_fits 33 rfl) rfl ?_
    exact ev_drop (l' := [some (.ref 272), none, some (.int r2), none, some (.int x13)]) ⟨Or.inr rfl, Or.inl rfl, Or.inr rfl, Or.inl rfl, Or.inr rfl, trivial⟩ (jn_X12_fits_61 G r2 x13 1 m16  hC hX)
  · exact ev_drop (l' := [some (.ref 272), none, some (.int r2), none, some (.int x13)]) ⟨Or.inr rfl, Or.inl rfl, Or.inr rfl, Or.inl rfl, Or.inr rfl, trivial⟩ (jn_X12_fits_60 G r2 x13 m16  hC hX)
set_option maxHeartbeats 300000 in
theorem lp_X12_fits_11 (G : ea_G) {res : ea_O}  (r2 : Int32)  {Ψ : (Int32 × ea_M) → Prop} (hX : ∀ x11s : Int32 × ea_M, Ψ x11s → ea_Ev G F_X12_fits res 68 [none, none, none, some (.int x11s.1), none] [] x11s.2 0 0) : ∀ (f : Nat) (s11 : Int32 × Int32 × ea_M), ea_E G F_X12_fits res 11 [some (.ref 272), none, some (.int r2), some (.int s11.1), some (.int s11.2.1)] [] s11.2.2 0 0 (ea_loop (f_X12_fits_s11 r2) f s11) Ψ := by
  refine ev_loop (G := G) (F := F_X12_fits) (res := res) (pc := 11) (st := []) (k := 0) (n := 0) (step := (f_X12_fits_s11 r2)) (Ψ := Ψ) (fun (s11 : Int32 × Int32 × ea_M) => [some (.ref 272), none, some (.int r2), some (.int s11.1), some (.int s11.2.1)]) (fun (s11 : Int32 × Int32 × ea_M) => s11.2.2) (fun s11 => ?_)
  have hC : ∀ s11 : Int32 × Int32 × ea_M, (Sum.elim (fun s11 : Int32 × Int32 × ea_M => ea_Ev G F_X12_fits res 11 [some (.ref 272), none, some (.int r2), some (.int s11.1), some (.int s11.2.1)] [] s11.2.2 0 0) Ψ) (.inl s11) → ea_Ev G F_X12_fits res 11 [some (.ref 272), none, some (.int r2), some (.int s11.1), some (.int s11.2.1)] [] s11.2.2 0 0 := fun _ h => h
  have hX : ∀ x11s : Int32 × ea_M, (Sum.elim (fun s11 : Int32 × Int32 × ea_M => ea_Ev G F_X12_fits res 11 [some (.ref 272), none, some (.int r2), some (.int s11.1), some (.int s11.2.1)] [] s11.2.2 0 0) Ψ) (.inr x11s) → ea_Ev G F_X12_fits res 68 [none, none, none, some (.int x11s.1), none] [] x11s.2 0 0 := hX
  unfold f_X12_fits_s11
  refine ev_iload (ea_at dt_X12_fits 8 rfl) rfl ?_
  refine ev_aload_n (ea_at dt_X12_fits 9 rfl) rfl ?_
  refine ev_getI (ea_at dt_X12_fits 10 rfl) fl_X12_95 sh_272 rfl ?_
  refine ev_i (fun x3 => ?_)
  refine ev_icmp_ge (tgt := 68) (ea_at dt_X12_fits 11 rfl) rfl (fun _ => ?_) (fun _ => ?_)
  · exact ev_leaf (fun h => ea_drop (l' := [none, none, none, some (.int s11.1), none]) ⟨Or.inl rfl, Or.inl rfl, Or.inl rfl, Or.inr rfl, Or.inl rfl, trivial⟩ (hX (s11.1, s11.2.2) h))
  · refine ev_iload_n (ea_at dt_X12_fits 12 rfl) rfl ?_
    refine ev_if_eq (tgt := 60) (ea_at dt_X12_fits 13 rfl) rfl (fun _ => ?_) (fun _ => ?_)
    · exact ev_drop (l' := [some (.ref 272), none, some (.int r2), none, some (.int s11.2.1)]) ⟨Or.inr rfl, Or.inl rfl, Or.inr rfl, Or.inl rfl, Or.inr rfl, trivial⟩ (jn_X12_fits_60 G r2 s11.2.1 s11.2.2  hC hX)
    · refine ev_iload_n (ea_at dt_X12_fits 14 rfl) rfl ?_
      refine ev_aload_n (ea_at dt_X12_fits 15 rfl) rfl ?_
      refine ev_getR (ea_at dt_X12_fits 16 rfl) fl_X12_29 sh_272 rfl ?_
      refine ev_iload (ea_at dt_X12_fits 17 rfl) rfl ?_
      refine ev_baload (ea_at dt_X12_fits 18 rfl) sh_278 ?_
      refine ev_i (fun x9 => ?_)
      refine ev_clI (F1 := F_X12_has) (fun rY mY hY => ea_runS (As := [.int r2, .int x9]) (ea_at dt_X12_fits 19 rfl) ml_X12_127 mv_X12_has (ok_X12_has G r2 x9 s11.2.2  rY mY hY) rfl rfl (Nat.le_of_ble_eq_true rfl) rfl) rfl (fun r11 m10 => ?_)
      refine ev_aload_n (ea_at dt_X12_fits 20 rfl) rfl ?_
      refine ev_getR (ea_at dt_X12_fits 21 rfl) fl_X12_29 sh_272 rfl ?_
      refine ev_iload (ea_at dt_X12_fits 22 rfl) rfl ?_
      refine ev_iconst (ea_at dt_X12_fits 23 rfl) ic_1 ?_
      refine ev_iadd (ea_at dt_X12_fits 24 rfl) ?_
      refine ev_baload (ea_at dt_X12_fits 25 rfl) sh_278 ?_
      refine ev_i (fun x12 => ?_)
      refine ev_iconst (ea_at dt_X12_fits 26 rfl) ic_1 ?_
      refine ev_icmp_ne (tgt := 52) (ea_at dt_X12_fits 27 rfl) rfl (fun _ => ?_) (fun _ => ?_)
      · refine ev_iconst (ea_at dt_X12_fits 28 rfl) ic_1 ?_
        refine ev_goto (tgt := 53) (ea_at dt_X12_fits 29 rfl) rfl ?_
        exact ev_drop (l' := [some (.ref 272), none, some (.int r2), none, some (.int s11.2.1)]) ⟨Or.inr rfl, Or.inl rfl, Or.inr rfl, Or.inl rfl, Or.inr rfl, trivial⟩ (jn_X12_fits_53 G r2 s11.2.1 r11 1 m10  hC hX)
      · refine ev_iconst (ea_at dt_X12_fits 30 rfl) ic_0 ?_
        exact ev_drop (l' := [some (.ref 272), none, some (.int r2), none, some (.int s11.2.1)]) ⟨Or.inr rfl, Or.inl rfl, Or.inr rfl, Or.inl rfl, Or.inr rfl, trivial⟩ (jn_X12_fits_53 G r2 s11.2.1 r11 0 m10  hC hX)
set_option maxHeartbeats 300000 in
theorem ok_X12_fits (G : ea_G) (p1 : Int32) (m : ea_M)  (rZ : Int32) (mZ : ea_M) (hZ : f_X12_fits p1 m = some (rZ, mZ)) : ea_Met G yX12_fits F_X12_fits [.ref 272, .int p1] m (0, rZ, mZ) := by
  refine ea_met (F := F_X12_fits) (by decide +kernel) rfl rfl (Nat.le_of_ble_eq_true rfl) (by simp only [List.mem_cons, List.not_mem_nil, or_false]; intro v hv; rcases hv with rfl | rfl <;> rfl) ((?_ : ea_E G F_X12_fits (0, rZ, mZ) 0 [some (.ref 272), some (.int p1), none, none, none] [] m 0 0 (f_X12_fits p1 m) (fun t => t = (rZ, mZ))) (rZ, mZ) hZ rfl)
  have hR : ∀ t : Int32 × ea_M, t = (rZ, mZ) → ((0, rZ, mZ) : ea_O) = (0, t) := fun t h => by rw [h]
  unfold f_X12_fits
  refine ev_aload_n (ea_at dt_X12_fits 0 rfl) rfl ?_
  refine ev_iload_n (ea_at dt_X12_fits 1 rfl) rfl ?_
  refine ev_clI (F1 := F_X12_songsOf) (fun rY mY hY => ea_runV (As := [.int p1]) (ea_at dt_X12_fits 2 rfl) ml_X12_435 mv_X12_songsOf (ok_X12_songsOf G p1 m  rY mY hY) sh_272 rfl rfl rfl (Nat.le_of_ble_eq_true rfl) rfl) rfl (fun r2 m1 => ?_)
  refine ev_istore_n (ls' := [some (.ref 272), some (.int p1), some (.int r2), none, none]) (ea_at dt_X12_fits 3 rfl) (ea_lt rfl) rfl ?_
  refine ev_iconst (ea_at dt_X12_fits 4 rfl) ic_1 ?_
  refine ev_istore_n (ls' := [some (.ref 272), some (.int p1), some (.int r2), some (.int 1), none]) (ea_at dt_X12_fits 5 rfl) (ea_lt rfl) rfl ?_
  refine ev_iconst (ea_at dt_X12_fits 6 rfl) ic_0 ?_
  refine ev_istore (ls' := [some (.ref 272), some (.int p1), some (.int r2), some (.int 1), some (.int 0)]) (ea_at dt_X12_fits 7 rfl) (ea_lt rfl) rfl ?_
  refine ev_drop (l' := [some (.ref 272), none, some (.int r2), some (.int 1), some (.int 0)]) ⟨Or.inr rfl, Or.inl rfl, Or.inr rfl, Or.inr rfl, Or.inr rfl, trivial⟩ ?_
  refine ev_bind (lp_X12_fits_11 G r2   (fun x11s h => ?_) ea_fuel (1, 0, m1))
  obtain ⟨t1, e1, q1⟩ := h
  refine (?_ : ea_E G F_X12_fits (0, rZ, mZ) 68 [none, none, none, some (.int x11s.1), none] [] x11s.2 0 0 _ (fun t => t = (rZ, mZ))) t1 e1 q1
  refine ev_iload_n (ea_at dt_X12_fits 38 rfl) rfl ?_
  exact ev_zretG (ea_at dt_X12_fits 39 rfl) rfl ⟨by decide, by decide⟩ (fun h => hR _ h)
def F_X12_songs : ea_F := (ea_rm 11 0 0, cX12_songs, RX12, some .int, 5, [], 0, 0)
def D_X12_songs : List (Nat × Instr × Nat) := [(0, .aload_n 0, 1), (1, .invokevirtual 254, 3), (4, .aload_n 0, 1), (5, .aload_n 0, 1), (6, .invokevirtual 438, 3), (9, .ifCond .ne 7, 3), (12, .iconst 1, 1), (13, .goto 4, 3), (16, .iconst 0, 1), (17, .iconst 1, 1), (18, .invokevirtual 265, 3), (21, .ifCond .eq 5, 3), (24, .iconst 0, 1), (25, .ireturn, 1), (26, .iconst 0, 1), (27, .istore_n 2, 1), (28, .iconst 1, 1), (29, .aload_n 0, 1), (30, .invokevirtual 74, 3), (33, .ishl, 1), (34, .iconst 1, 1), (35, .isub, 1), (36, .istore_n 3, 1), (37, .iconst 0, 1), (38, .istore 4, 2), (40, .iload 4, 2), (42, .iconst 1, 1), (43, .aload_n 0, 1), (44, .invokevirtual 74, 3), (47, .ishl, 1), (48, .if_icmp .ge 29, 3), (51, .aload_n 0, 1), (52, .iload 4, 2), (54, .invokevirtual 441, 3), (57, .ifCond .ne 6, 3), (60, .goto 11, 3), (63, .iinc 2 1, 3), (66, .iload_n 3, 1), (67, .iload 4, 2), (69, .iand, 1), (70, .istore_n 3, 1), (71, .iinc 4 1, 3), (74, .goto (-34), 3), (77, .iload_n 1, 1), (78, .ifCond .ne 7, 3), (81, .iload_n 2, 1), (82, .goto 12, 3), (85, .iload_n 2, 1), (86, .ifCond .ne 7, 3), (89, .iconst 0, 1), (90, .goto 4, 3), (93, .iload_n 3, 1), (94, .ireturn, 1)]
theorem dt_X12_songs : ∀ q ∈ D_X12_songs, decode cX12_songs q.1 = .ok q.2 := by decide +kernel
theorem mv_X12_songs : ea_MV yX12_songs (F_X12_songs) 1 := ⟨⟨List.mem_append_right _ (List.mem_of_getElem? (i := 13) (by decide +kernel)), List.mem_append_right _ (List.mem_of_getElem? (i := 1973) (by decide +kernel)), ⟨by decide, by decide⟩, by decide +kernel⟩, List.mem_append_right _ (List.mem_of_getElem? (i := 1971) (by decide +kernel)), List.mem_append_right _ (List.mem_of_getElem? (i := 1972) (by decide +kernel))⟩
def f_X12_songs_j71 (p1 : Int32) (x16 : Int32) (x17 : Int32) (x18 : Int32) (m19 : ea_M) : Option ((Int32 × Int32 × Int32 × ea_M) ⊕ (Int32 × Int32 × ea_M)) :=
  some (.inl (x16, x17, x18 + 1, m19))
def f_X12_songs_s40 (p1 : Int32)  (s40 : Int32 × Int32 × Int32 × ea_M) : Option ((Int32 × Int32 × Int32 × ea_M) ⊕ (Int32 × Int32 × ea_M)) :=
  ea_cl (f_X12_birds s40.2.2.2) fun r13 m12 =>
  if (1 <<< (r13 &&& 31)) ≤ s40.2.2.1 then
  some (.inr (s40.1, s40.2.1, m12))
  else
  ea_cl (f_X12_fits s40.2.2.1 m12) fun r15 m14 =>
  if r15 = 0 then
  f_X12_songs_j71 p1 s40.1 s40.2.1 s40.2.2.1 m14
  else
  ea_bd (s40.2.1 &&& s40.2.2.1) fun x20 =>
  f_X12_songs_j71 p1 (s40.1 + 1) x20 s40.2.2.1 m14
def f_X12_songs_j17 (p1 : Int32) (x5 : Int32) (m6 : ea_M) : Option (Int32 × ea_M) :=
  ea_cl (f_X12_throwsIf x5 1 m6) fun r8 m7 =>
  if r8 = 0 then
  ea_cl (f_X12_birds m7) fun r10 m9 =>
  ea_bd ((1 <<< (r10 &&& 31)) - 1) fun x11 =>
  (ea_loop (f_X12_songs_s40 p1) ea_fuel (0, x11, 0, m9)).bind (fun x40s =>
  if p1 = 0 then
  some (x40s.1, x40s.2.2)
  else
  if x40s.1 = 0 then
  some (0, x40s.2.2)
  else
  some (x40s.2.1, x40s.2.2))
  else
  some (0, m7)
def f_X12_songs (p1 : Int32) (m : ea_M) : Option (Int32 × ea_M) :=
  ea_cl (f_X12_uses m) fun r2 m1 =>
  ea_cl (f_X12_isTold m1) fun r4 m3 =>
  if r4 = 0 then
  f_X12_songs_j17 p1 1 m3
  else
  f_X12_songs_j17 p1 0 m3
set_option maxHeartbeats 300000 in
theorem jn_X12_songs_71 (G : ea_G) {res : ea_O}  (p1 : Int32) (x16 : Int32) (x17 : Int32) (x18 : Int32) (m19 : ea_M)  {Φ : ((Int32 × Int32 × Int32 × ea_M) ⊕ (Int32 × Int32 × ea_M)) → Prop} (hC : ∀ s40 : Int32 × Int32 × Int32 × ea_M, Φ (.inl s40) → ea_Ev G F_X12_songs res 40 [some (.ref 272), some (.int p1), some (.int s40.1), some (.int s40.2.1), some (.int s40.2.2.1)] [] s40.2.2.2 0 0) (hX : ∀ x40s : Int32 × Int32 × ea_M, Φ (.inr x40s) → ea_Ev G F_X12_songs res 77 [none, some (.int p1), some (.int x40s.1), some (.int x40s.2.1), none] [] x40s.2.2 0 0) : ea_E G F_X12_songs res 71 [some (.ref 272), some (.int p1), some (.int x16), some (.int x17), some (.int x18)] [] m19 0 0 (f_X12_songs_j71 p1 x16 x17 x18 m19) Φ := by
  unfold f_X12_songs_j71
  refine ev_iinc (ls' := [some (.ref 272), some (.int p1), some (.int x16), some (.int x17), some (.int (x18 + 1))]) (ea_at dt_X12_songs 41 rfl) rfl (congrArg (fun z => _ + z) ic_1) (ea_lt rfl) rfl ?_
  refine ev_goto (tgt := 40) (ea_at dt_X12_songs 42 rfl) rfl ?_
  exact ev_leaf (fun h => ea_drop (l' := [some (.ref 272), some (.int p1), some (.int x16), some (.int x17), some (.int (x18 + 1))]) ⟨Or.inr rfl, Or.inr rfl, Or.inr rfl, Or.inr rfl, Or.inr rfl, trivial⟩ (hC (x16, x17, x18 + 1, m19) h))
set_option maxHeartbeats 300000 in
theorem lp_X12_songs_40 (G : ea_G) {res : ea_O}  (p1 : Int32)  {Ψ : (Int32 × Int32 × ea_M) → Prop} (hX : ∀ x40s : Int32 × Int32 × ea_M, Ψ x40s → ea_Ev G F_X12_songs res 77 [none, some (.int p1), some (.int x40s.1), some (.int x40s.2.1), none] [] x40s.2.2 0 0) : ∀ (f : Nat) (s40 : Int32 × Int32 × Int32 × ea_M), ea_E G F_X12_songs res 40 [some (.ref 272), some (.int p1), some (.int s40.1), some (.int s40.2.1), some (.int s40.2.2.1)] [] s40.2.2.2 0 0 (ea_loop (f_X12_songs_s40 p1) f s40) Ψ := by
  refine ev_loop (G := G) (F := F_X12_songs) (res := res) (pc := 40) (st := []) (k := 0) (n := 0) (step := (f_X12_songs_s40 p1)) (Ψ := Ψ) (fun (s40 : Int32 × Int32 × Int32 × ea_M) => [some (.ref 272), some (.int p1), some (.int s40.1), some (.int s40.2.1), some (.int s40.2.2.1)]) (fun (s40 : Int32 × Int32 × Int32 × ea_M) => s40.2.2.2) (fun s40 => ?_)
  have hC : ∀ s40 : Int32 × Int32 × Int32 × ea_M, (Sum.elim (fun s40 : Int32 × Int32 × Int32 × ea_M => ea_Ev G F_X12_songs res 40 [some (.ref 272), some (.int p1), some (.int s40.1), some (.int s40.2.1), some (.int s40.2.2.1)] [] s40.2.2.2 0 0) Ψ) (.inl s40) → ea_Ev G F_X12_songs res 40 [some (.ref 272), some (.int p1), some (.int s40.1), some (.int s40.2.1), some (.int s40.2.2.1)] [] s40.2.2.2 0 0 := fun _ h => h
  have hX : ∀ x40s : Int32 × Int32 × ea_M, (Sum.elim (fun s40 : Int32 × Int32 × Int32 × ea_M => ea_Ev G F_X12_songs res 40 [some (.ref 272), some (.int p1), some (.int s40.1), some (.int s40.2.1), some (.int s40.2.2.1)] [] s40.2.2.2 0 0) Ψ) (.inr x40s) → ea_Ev G F_X12_songs res 77 [none, some (.int p1), some (.int x40s.1), some (.int x40s.2.1), none] [] x40s.2.2 0 0 := hX
  unfold f_X12_songs_s40
  refine ev_iload (ea_at dt_X12_songs 25 rfl) rfl ?_
  refine ev_iconst (ea_at dt_X12_songs 26 rfl) ic_1 ?_
  refine ev_aload_n (ea_at dt_X12_songs 27 rfl) rfl ?_
  refine ev_clI (F1 := F_X12_birds) (fun rY mY hY => ea_runV (As := []) (ea_at dt_X12_songs 28 rfl) ml_X12_74 mv_X12_birds (ok_X12_birds G s40.2.2.2  rY mY hY) sh_272 rfl rfl rfl (Nat.le_of_ble_eq_true rfl) rfl) rfl (fun r13 m12 => ?_)
  refine ev_ishl (ea_at dt_X12_songs 29 rfl) ?_
  refine ev_icmp_ge (tgt := 77) (ea_at dt_X12_songs 30 rfl) rfl (fun _ => ?_) (fun _ => ?_)
  · exact ev_leaf (fun h => ea_drop (l' := [none, some (.int p1), some (.int s40.1), some (.int s40.2.1), none]) ⟨Or.inl rfl, Or.inr rfl, Or.inr rfl, Or.inr rfl, Or.inl rfl, trivial⟩ (hX (s40.1, s40.2.1, m12) h))
  · refine ev_aload_n (ea_at dt_X12_songs 31 rfl) rfl ?_
    refine ev_iload (ea_at dt_X12_songs 32 rfl) rfl ?_
    refine ev_clI (F1 := F_X12_fits) (fun rY mY hY => ea_runV (As := [.int s40.2.2.1]) (ea_at dt_X12_songs 33 rfl) ml_X12_441 mv_X12_fits (ok_X12_fits G s40.2.2.1 m12  rY mY hY) sh_272 rfl rfl rfl (Nat.le_of_ble_eq_true rfl) rfl) rfl (fun r15 m14 => ?_)
    refine ev_if_ne (tgt := 63) (ea_at dt_X12_songs 34 rfl) rfl (fun _ => ?_) (fun _ => ?_)
    · refine ev_goto (tgt := 71) (ea_at dt_X12_songs 35 rfl) rfl ?_
      exact ev_drop (l' := [some (.ref 272), some (.int p1), some (.int s40.1), some (.int s40.2.1), some (.int s40.2.2.1)]) ⟨Or.inr rfl, Or.inr rfl, Or.inr rfl, Or.inr rfl, Or.inr rfl, trivial⟩ (jn_X12_songs_71 G p1 s40.1 s40.2.1 s40.2.2.1 m14  hC hX)
    · refine ev_iinc (ls' := [some (.ref 272), some (.int p1), some (.int (s40.1 + 1)), some (.int s40.2.1), some (.int s40.2.2.1)]) (ea_at dt_X12_songs 36 rfl) rfl (congrArg (fun z => _ + z) ic_1) (ea_lt rfl) rfl ?_
      refine ev_iload_n (ea_at dt_X12_songs 37 rfl) rfl ?_
      refine ev_iload (ea_at dt_X12_songs 38 rfl) rfl ?_
      refine ev_iand (ea_at dt_X12_songs 39 rfl) ?_
      refine ev_i (fun x20 => ?_)
      refine ev_istore_n (ls' := [some (.ref 272), some (.int p1), some (.int (s40.1 + 1)), some (.int x20), some (.int s40.2.2.1)]) (ea_at dt_X12_songs 40 rfl) (ea_lt rfl) rfl ?_
      exact ev_drop (l' := [some (.ref 272), some (.int p1), some (.int (s40.1 + 1)), some (.int x20), some (.int s40.2.2.1)]) ⟨Or.inr rfl, Or.inr rfl, Or.inr rfl, Or.inr rfl, Or.inr rfl, trivial⟩ (jn_X12_songs_71 G p1 (s40.1 + 1) x20 s40.2.2.1 m14  hC hX)
set_option maxHeartbeats 300000 in
theorem jn_X12_songs_17 (G : ea_G) {res : ea_O}  (p1 : Int32) (x5 : Int32) (m6 : ea_M)  {Φ : (Int32 × ea_M) → Prop} (hR : ∀ t : Int32 × ea_M, Φ t → res = (0, t)) : ea_E G F_X12_songs res 17 [some (.ref 272), some (.int p1), none, none, none] [.int x5, .ref 272] m6 0 0 (f_X12_songs_j17 p1 x5 m6) Φ := by
  unfold f_X12_songs_j17
  refine ev_iconst (ea_at dt_X12_songs 9 rfl) ic_1 ?_
  refine ev_clI (F1 := F_X12_throwsIf) (fun rY mY hY => ea_runV (As := [.int x5, .int 1]) (ea_at dt_X12_songs 10 rfl) ml_X12_265 mv_X12_throwsIf (ok_X12_throwsIf G x5 1 m6  rY mY hY) sh_272 rfl rfl rfl (Nat.le_of_ble_eq_true rfl) rfl) rfl (fun r8 m7 => ?_)
  refine ev_if_eq (tgt := 26) (ea_at dt_X12_songs 11 rfl) rfl (fun _ => ?_) (fun _ => ?_)
  · refine ev_iconst (ea_at dt_X12_songs 14 rfl) ic_0 ?_
    refine ev_istore_n (ls' := [some (.ref 272), some (.int p1), some (.int 0), none, none]) (ea_at dt_X12_songs 15 rfl) (ea_lt rfl) rfl ?_
    refine ev_iconst (ea_at dt_X12_songs 16 rfl) ic_1 ?_
    refine ev_aload_n (ea_at dt_X12_songs 17 rfl) rfl ?_
    refine ev_clI (F1 := F_X12_birds) (fun rY mY hY => ea_runV (As := []) (ea_at dt_X12_songs 18 rfl) ml_X12_74 mv_X12_birds (ok_X12_birds G m7  rY mY hY) sh_272 rfl rfl rfl (Nat.le_of_ble_eq_true rfl) rfl) rfl (fun r10 m9 => ?_)
    refine ev_ishl (ea_at dt_X12_songs 19 rfl) ?_
    refine ev_iconst (ea_at dt_X12_songs 20 rfl) ic_1 ?_
    refine ev_isub (ea_at dt_X12_songs 21 rfl) ?_
    refine ev_i (fun x11 => ?_)
    refine ev_istore_n (ls' := [some (.ref 272), some (.int p1), some (.int 0), some (.int x11), none]) (ea_at dt_X12_songs 22 rfl) (ea_lt rfl) rfl ?_
    refine ev_iconst (ea_at dt_X12_songs 23 rfl) ic_0 ?_
    refine ev_istore (ls' := [some (.ref 272), some (.int p1), some (.int 0), some (.int x11), some (.int 0)]) (ea_at dt_X12_songs 24 rfl) (ea_lt rfl) rfl ?_
    refine ev_drop (l' := [some (.ref 272), some (.int p1), some (.int 0), some (.int x11), some (.int 0)]) ⟨Or.inr rfl, Or.inr rfl, Or.inr rfl, Or.inr rfl, Or.inr rfl, trivial⟩ ?_
    refine ev_bind (lp_X12_songs_40 G p1   (fun x40s h => ?_) ea_fuel (0, x11, 0, m9))
    obtain ⟨t1, e1, q1⟩ := h
    refine (?_ : ea_E G F_X12_songs res 77 [none, some (.int p1), some (.int x40s.1), some (.int x40s.2.1), none] [] x40s.2.2 0 0 _ Φ) t1 e1 q1
    refine ev_iload_n (ea_at dt_X12_songs 43 rfl) rfl ?_
    refine ev_if_ne (tgt := 85) (ea_at dt_X12_songs 44 rfl) rfl (fun _ => ?_) (fun _ => ?_)
    · refine ev_iload_n (ea_at dt_X12_songs 45 rfl) rfl ?_
      refine ev_goto (tgt := 94) (ea_at dt_X12_songs 46 rfl) rfl ?_
      exact ev_iret (ea_at dt_X12_songs 52 rfl) rfl ⟨by decide, by decide⟩ (fun h => hR _ h)
    · refine ev_iload_n (ea_at dt_X12_songs 47 rfl) rfl ?_
      refine ev_if_ne (tgt := 93) (ea_at dt_X12_songs 48 rfl) rfl (fun _ => ?_) (fun _ => ?_)
      · refine ev_iconst (ea_at dt_X12_songs 49 rfl) ic_0 ?_
        refine ev_goto (tgt := 94) (ea_at dt_X12_songs 50 rfl) rfl ?_
        exact ev_iret (ea_at dt_X12_songs 52 rfl) rfl ⟨by decide, by decide⟩ (fun h => hR _ h)
      · refine ev_iload_n (ea_at dt_X12_songs 51 rfl) rfl ?_
        exact ev_iret (ea_at dt_X12_songs 52 rfl) rfl ⟨by decide, by decide⟩ (fun h => hR _ h)
  · refine ev_iconst (ea_at dt_X12_songs 12 rfl) ic_0 ?_
    exact ev_iret (ea_at dt_X12_songs 13 rfl) rfl ⟨by decide, by decide⟩ (fun h => hR _ h)
set_option maxHeartbeats 300000 in
theorem ok_X12_songs (G : ea_G) (p1 : Int32) (m : ea_M)  (rZ : Int32) (mZ : ea_M) (hZ : f_X12_songs p1 m = some (rZ, mZ)) : ea_Met G yX12_songs F_X12_songs [.ref 272, .int p1] m (0, rZ, mZ) := by
  refine ea_met (F := F_X12_songs) (by decide +kernel) rfl rfl (Nat.le_of_ble_eq_true rfl) (by simp only [List.mem_cons, List.not_mem_nil, or_false]; intro v hv; rcases hv with rfl | rfl <;> rfl) ((?_ : ea_E G F_X12_songs (0, rZ, mZ) 0 [some (.ref 272), some (.int p1), none, none, none] [] m 0 0 (f_X12_songs p1 m) (fun t => t = (rZ, mZ))) (rZ, mZ) hZ rfl)
  have hR : ∀ t : Int32 × ea_M, t = (rZ, mZ) → ((0, rZ, mZ) : ea_O) = (0, t) := fun t h => by rw [h]
  unfold f_X12_songs
  refine ev_aload_n (ea_at dt_X12_songs 0 rfl) rfl ?_
  refine ev_clU (F1 := F_X12_uses) (fun rY mY hY => ea_runV (As := []) (ea_at dt_X12_songs 1 rfl) ml_X12_254 mv_X12_uses (ok_X12_uses G m  rY mY hY) sh_272 rfl rfl rfl (Nat.le_of_ble_eq_true rfl) rfl) rfl (fun r2 m1 => ?_)
  refine ev_aload_n (ea_at dt_X12_songs 2 rfl) rfl ?_
  refine ev_aload_n (ea_at dt_X12_songs 3 rfl) rfl ?_
  refine ev_clI (F1 := F_X12_isTold) (fun rY mY hY => ea_runV (As := []) (ea_at dt_X12_songs 4 rfl) ml_X12_438 mv_X12_isTold (ok_X12_isTold G m1  rY mY hY) sh_272 rfl rfl rfl (Nat.le_of_ble_eq_true rfl) rfl) rfl (fun r4 m3 => ?_)
  refine ev_if_ne (tgt := 16) (ea_at dt_X12_songs 5 rfl) rfl (fun _ => ?_) (fun _ => ?_)
  · refine ev_iconst (ea_at dt_X12_songs 6 rfl) ic_1 ?_
    refine ev_goto (tgt := 17) (ea_at dt_X12_songs 7 rfl) rfl ?_
    exact ev_drop (l' := [some (.ref 272), some (.int p1), none, none, none]) ⟨Or.inr rfl, Or.inr rfl, Or.inl rfl, Or.inl rfl, Or.inl rfl, trivial⟩ (jn_X12_songs_17 G p1 1 m3  hR)
  · refine ev_iconst (ea_at dt_X12_songs 8 rfl) ic_0 ?_
    exact ev_drop (l' := [some (.ref 272), some (.int p1), none, none, none]) ⟨Or.inr rfl, Or.inr rfl, Or.inl rfl, Or.inl rfl, Or.inl rfl, trivial⟩ (jn_X12_songs_17 G p1 0 m3  hR)
def F_X12_ask : ea_F := (ea_rm 11 0 0, cX12_ask, RX12, some .int, 7, [], 0, 0)
def D_X12_ask : List (Nat × Instr × Nat) := [(0, .aload_n 0, 1), (1, .invokevirtual 254, 3), (4, .aload_n 0, 1), (5, .aload_n 0, 1), (6, .invokevirtual 438, 3), (9, .ifCond .ne 7, 3), (12, .iconst 1, 1), (13, .goto 4, 3), (16, .iconst 0, 1), (17, .iconst 1, 1), (18, .invokevirtual 265, 3), (21, .ifCond .eq 5, 3), (24, .iconst 0, 1), (25, .ireturn, 1), (26, .iconst (-1), 1), (27, .istore_n 1, 1), (28, .sipush 999, 3), (31, .istore_n 2, 1), (32, .iconst 0, 1), (33, .istore_n 3, 1), (34, .iload_n 3, 1), (35, .bipush 6, 2), (37, .if_icmp .ge 97, 3), (40, .iconst 0, 1), (41, .istore 4, 2), (43, .iconst 0, 1), (44, .istore 5, 2), (46, .iconst 0, 1), (47, .istore 6, 2), (49, .iload 6, 2), (51, .iconst 1, 1), (52, .aload_n 0, 1), (53, .invokevirtual 74, 3), (56, .ishl, 1), (57, .if_icmp .ge 39, 3), (60, .aload_n 0, 1), (61, .iload 6, 2), (63, .invokevirtual 441, 3), (66, .ifCond .ne 6, 3), (69, .goto 21, 3), (72, .iinc 4 1, 3), (75, .iload 5, 2), (77, .aload_n 0, 1), (78, .iload 6, 2), (80, .invokevirtual 435, 3), (83, .iload_n 3, 1), (84, .ishr, 1), (85, .iconst 1, 1), (86, .iand, 1), (87, .iadd, 1), (88, .istore 5, 2), (90, .iinc 6 1, 3), (93, .goto (-44), 3), (96, .iload 5, 2), (98, .iload 4, 2), (100, .iload 5, 2), (102, .isub, 1), (103, .invokestatic 300, 3), (106, .istore 6, 2), (108, .iload 4, 2), (110, .iconst 2, 1), (111, .if_icmp .lt 17, 3), (114, .iload 6, 2), (116, .iload_n 2, 1), (117, .if_icmp .lt 6, 3), (120, .goto 8, 3), (123, .iload_n 3, 1), (124, .istore_n 1, 1), (125, .iload 6, 2), (127, .istore_n 2, 1), (128, .iinc 3 1, 3), (131, .goto (-97), 3), (134, .iload_n 1, 1), (135, .ireturn, 1)]
theorem dt_X12_ask : ∀ q ∈ D_X12_ask, decode cX12_ask q.1 = .ok q.2 := by decide +kernel
theorem mv_X12_ask : ea_MV yX12_ask (F_X12_ask) 0 := ⟨⟨List.mem_append_right _ (List.mem_of_getElem? (i := 13) (by decide +kernel)), List.mem_append_right _ (List.mem_of_getElem? (i := 1989) (by decide +kernel)), ⟨by decide, by decide⟩, by decide +kernel⟩, List.mem_append_right _ (List.mem_of_getElem? (i := 1987) (by decide +kernel)), List.mem_append_right _ (List.mem_of_getElem? (i := 1988) (by decide +kernel))⟩
def f_X12_ask_j90 (s34 : Int32 × Int32 × Int32 × ea_M) (x13 : Int32) (x14 : Int32) (x15 : Int32) (m16 : ea_M) : Option ((Int32 × Int32 × Int32 × ea_M) ⊕ (Int32 × Int32 × ea_M)) :=
  some (.inl (x13, x14, x15 + 1, m16))
def f_X12_ask_s49 (s34 : Int32 × Int32 × Int32 × ea_M)  (s49 : Int32 × Int32 × Int32 × ea_M) : Option ((Int32 × Int32 × Int32 × ea_M) ⊕ (Int32 × Int32 × ea_M)) :=
  ea_cl (f_X12_birds s49.2.2.2) fun r10 m9 =>
  if (1 <<< (r10 &&& 31)) ≤ s49.2.2.1 then
  some (.inr (s49.1, s49.2.1, m9))
  else
  ea_cl (f_X12_fits s49.2.2.1 m9) fun r12 m11 =>
  if r12 = 0 then
  f_X12_ask_j90 s34 s49.1 s49.2.1 s49.2.2.1 m11
  else
  ea_cl (f_X12_songsOf s49.2.2.1 m11) fun r18 m17 =>
  ea_bd ((r18 >>> (s34.2.2.1 &&& 31)) &&& 1) fun x19 =>
  ea_bd (s49.2.1 + x19) fun x20 =>
  f_X12_ask_j90 s34 (s49.1 + 1) x20 s49.2.2.1 m17
def f_X12_ask_j128 (x22 : Int32) (x23 : Int32) (x24 : Int32) (m25 : ea_M) : Option ((Int32 × Int32 × Int32 × ea_M) ⊕ (Int32 × ea_M)) :=
  some (.inl (x22, x23, x24 + 1, m25))
def f_X12_ask_s34  (s34 : Int32 × Int32 × Int32 × ea_M) : Option ((Int32 × Int32 × Int32 × ea_M) ⊕ (Int32 × ea_M)) :=
  if 6 ≤ s34.2.2.1 then
  some (.inr (s34.1, s34.2.2.2))
  else
  (ea_loop (f_X12_ask_s49 s34) ea_fuel (0, 0, 0, s34.2.2.2)).bind (fun x49s =>
  ea_bd (ea_max x49s.2.1 (x49s.1 - x49s.2.1)) fun x21 =>
  if x49s.1 < 2 then
  f_X12_ask_j128 s34.1 s34.2.1 s34.2.2.1 x49s.2.2
  else
  if x21 < s34.2.1 then
  f_X12_ask_j128 s34.2.2.1 x21 s34.2.2.1 x49s.2.2
  else
  f_X12_ask_j128 s34.1 s34.2.1 s34.2.2.1 x49s.2.2)
def f_X12_ask_j17 (x5 : Int32) (m6 : ea_M) : Option (Int32 × ea_M) :=
  ea_cl (f_X12_throwsIf x5 1 m6) fun r8 m7 =>
  if r8 = 0 then
  (ea_loop f_X12_ask_s34 ea_fuel ((-1), 999, 0, m7)).bind (fun x34s =>
  some (x34s.1, x34s.2))
  else
  some (0, m7)
def f_X12_ask (m : ea_M) : Option (Int32 × ea_M) :=
  ea_cl (f_X12_uses m) fun r2 m1 =>
  ea_cl (f_X12_isTold m1) fun r4 m3 =>
  if r4 = 0 then
  f_X12_ask_j17 1 m3
  else
  f_X12_ask_j17 0 m3
set_option maxHeartbeats 300000 in
theorem jn_X12_ask_90 (G : ea_G) {res : ea_O}  (s34 : Int32 × Int32 × Int32 × ea_M) (x13 : Int32) (x14 : Int32) (x15 : Int32) (m16 : ea_M)  {Φ : ((Int32 × Int32 × Int32 × ea_M) ⊕ (Int32 × Int32 × ea_M)) → Prop} (hC : ∀ s49 : Int32 × Int32 × Int32 × ea_M, Φ (.inl s49) → ea_Ev G F_X12_ask res 49 [some (.ref 272), some (.int s34.1), some (.int s34.2.1), some (.int s34.2.2.1), some (.int s49.1), some (.int s49.2.1), some (.int s49.2.2.1)] [] s49.2.2.2 0 0) (hX : ∀ x49s : Int32 × Int32 × ea_M, Φ (.inr x49s) → ea_Ev G F_X12_ask res 96 [some (.ref 272), some (.int s34.1), some (.int s34.2.1), some (.int s34.2.2.1), some (.int x49s.1), some (.int x49s.2.1), none] [] x49s.2.2 0 0) : ea_E G F_X12_ask res 90 [some (.ref 272), some (.int s34.1), some (.int s34.2.1), some (.int s34.2.2.1), some (.int x13), some (.int x14), some (.int x15)] [] m16 0 0 (f_X12_ask_j90 s34 x13 x14 x15 m16) Φ := by
  unfold f_X12_ask_j90
  refine ev_iinc (ls' := [some (.ref 272), some (.int s34.1), some (.int s34.2.1), some (.int s34.2.2.1), some (.int x13), some (.int x14), some (.int (x15 + 1))]) (ea_at dt_X12_ask 51 rfl) rfl (congrArg (fun z => _ + z) ic_1) (ea_lt rfl) rfl ?_
  refine ev_goto (tgt := 49) (ea_at dt_X12_ask 52 rfl) rfl ?_
  exact ev_leaf (fun h => ea_drop (l' := [some (.ref 272), some (.int s34.1), some (.int s34.2.1), some (.int s34.2.2.1), some (.int x13), some (.int x14), some (.int (x15 + 1))]) ⟨Or.inr rfl, Or.inr rfl, Or.inr rfl, Or.inr rfl, Or.inr rfl, Or.inr rfl, Or.inr rfl, trivial⟩ (hC (x13, x14, x15 + 1, m16) h))
set_option maxHeartbeats 300000 in
theorem lp_X12_ask_49 (G : ea_G) {res : ea_O}  (s34 : Int32 × Int32 × Int32 × ea_M)  {Ψ : (Int32 × Int32 × ea_M) → Prop} (hX : ∀ x49s : Int32 × Int32 × ea_M, Ψ x49s → ea_Ev G F_X12_ask res 96 [some (.ref 272), some (.int s34.1), some (.int s34.2.1), some (.int s34.2.2.1), some (.int x49s.1), some (.int x49s.2.1), none] [] x49s.2.2 0 0) : ∀ (f : Nat) (s49 : Int32 × Int32 × Int32 × ea_M), ea_E G F_X12_ask res 49 [some (.ref 272), some (.int s34.1), some (.int s34.2.1), some (.int s34.2.2.1), some (.int s49.1), some (.int s49.2.1), some (.int s49.2.2.1)] [] s49.2.2.2 0 0 (ea_loop (f_X12_ask_s49 s34) f s49) Ψ := by
  refine ev_loop (G := G) (F := F_X12_ask) (res := res) (pc := 49) (st := []) (k := 0) (n := 0) (step := (f_X12_ask_s49 s34)) (Ψ := Ψ) (fun (s49 : Int32 × Int32 × Int32 × ea_M) => [some (.ref 272), some (.int s34.1), some (.int s34.2.1), some (.int s34.2.2.1), some (.int s49.1), some (.int s49.2.1), some (.int s49.2.2.1)]) (fun (s49 : Int32 × Int32 × Int32 × ea_M) => s49.2.2.2) (fun s49 => ?_)
  have hC : ∀ s49 : Int32 × Int32 × Int32 × ea_M, (Sum.elim (fun s49 : Int32 × Int32 × Int32 × ea_M => ea_Ev G F_X12_ask res 49 [some (.ref 272), some (.int s34.1), some (.int s34.2.1), some (.int s34.2.2.1), some (.int s49.1), some (.int s49.2.1), some (.int s49.2.2.1)] [] s49.2.2.2 0 0) Ψ) (.inl s49) → ea_Ev G F_X12_ask res 49 [some (.ref 272), some (.int s34.1), some (.int s34.2.1), some (.int s34.2.2.1), some (.int s49.1), some (.int s49.2.1), some (.int s49.2.2.1)] [] s49.2.2.2 0 0 := fun _ h => h
  have hX : ∀ x49s : Int32 × Int32 × ea_M, (Sum.elim (fun s49 : Int32 × Int32 × Int32 × ea_M => ea_Ev G F_X12_ask res 49 [some (.ref 272), some (.int s34.1), some (.int s34.2.1), some (.int s34.2.2.1), some (.int s49.1), some (.int s49.2.1), some (.int s49.2.2.1)] [] s49.2.2.2 0 0) Ψ) (.inr x49s) → ea_Ev G F_X12_ask res 96 [some (.ref 272), some (.int s34.1), some (.int s34.2.1), some (.int s34.2.2.1), some (.int x49s.1), some (.int x49s.2.1), none] [] x49s.2.2 0 0 := hX
  unfold f_X12_ask_s49
  refine ev_iload (ea_at dt_X12_ask 29 rfl) rfl ?_
  refine ev_iconst (ea_at dt_X12_ask 30 rfl) ic_1 ?_
  refine ev_aload_n (ea_at dt_X12_ask 31 rfl) rfl ?_
  refine ev_clI (F1 := F_X12_birds) (fun rY mY hY => ea_runV (As := []) (ea_at dt_X12_ask 32 rfl) ml_X12_74 mv_X12_birds (ok_X12_birds G s49.2.2.2  rY mY hY) sh_272 rfl rfl rfl (Nat.le_of_ble_eq_true rfl) rfl) rfl (fun r10 m9 => ?_)
  refine ev_ishl (ea_at dt_X12_ask 33 rfl) ?_
  refine ev_icmp_ge (tgt := 96) (ea_at dt_X12_ask 34 rfl) rfl (fun _ => ?_) (fun _ => ?_)
  · exact ev_leaf (fun h => ea_drop (l' := [some (.ref 272), some (.int s34.1), some (.int s34.2.1), some (.int s34.2.2.1), some (.int s49.1), some (.int s49.2.1), none]) ⟨Or.inr rfl, Or.inr rfl, Or.inr rfl, Or.inr rfl, Or.inr rfl, Or.inr rfl, Or.inl rfl, trivial⟩ (hX (s49.1, s49.2.1, m9) h))
  · refine ev_aload_n (ea_at dt_X12_ask 35 rfl) rfl ?_
    refine ev_iload (ea_at dt_X12_ask 36 rfl) rfl ?_
    refine ev_clI (F1 := F_X12_fits) (fun rY mY hY => ea_runV (As := [.int s49.2.2.1]) (ea_at dt_X12_ask 37 rfl) ml_X12_441 mv_X12_fits (ok_X12_fits G s49.2.2.1 m9  rY mY hY) sh_272 rfl rfl rfl (Nat.le_of_ble_eq_true rfl) rfl) rfl (fun r12 m11 => ?_)
    refine ev_if_ne (tgt := 72) (ea_at dt_X12_ask 38 rfl) rfl (fun _ => ?_) (fun _ => ?_)
    · refine ev_goto (tgt := 90) (ea_at dt_X12_ask 39 rfl) rfl ?_
      exact ev_drop (l' := [some (.ref 272), some (.int s34.1), some (.int s34.2.1), some (.int s34.2.2.1), some (.int s49.1), some (.int s49.2.1), some (.int s49.2.2.1)]) ⟨Or.inr rfl, Or.inr rfl, Or.inr rfl, Or.inr rfl, Or.inr rfl, Or.inr rfl, Or.inr rfl, trivial⟩ (jn_X12_ask_90 G s34 s49.1 s49.2.1 s49.2.2.1 m11  hC hX)
    · refine ev_iinc (ls' := [some (.ref 272), some (.int s34.1), some (.int s34.2.1), some (.int s34.2.2.1), some (.int (s49.1 + 1)), some (.int s49.2.1), some (.int s49.2.2.1)]) (ea_at dt_X12_ask 40 rfl) rfl (congrArg (fun z => _ + z) ic_1) (ea_lt rfl) rfl ?_
      refine ev_iload (ea_at dt_X12_ask 41 rfl) rfl ?_
      refine ev_aload_n (ea_at dt_X12_ask 42 rfl) rfl ?_
      refine ev_iload (ea_at dt_X12_ask 43 rfl) rfl ?_
      refine ev_clI (F1 := F_X12_songsOf) (fun rY mY hY => ea_runV (As := [.int s49.2.2.1]) (ea_at dt_X12_ask 44 rfl) ml_X12_435 mv_X12_songsOf (ok_X12_songsOf G s49.2.2.1 m11  rY mY hY) sh_272 rfl rfl rfl (Nat.le_of_ble_eq_true rfl) rfl) rfl (fun r18 m17 => ?_)
      refine ev_iload_n (ea_at dt_X12_ask 45 rfl) rfl ?_
      refine ev_ishr (ea_at dt_X12_ask 46 rfl) ?_
      refine ev_iconst (ea_at dt_X12_ask 47 rfl) ic_1 ?_
      refine ev_iand (ea_at dt_X12_ask 48 rfl) ?_
      refine ev_i (fun x19 => ?_)
      refine ev_iadd (ea_at dt_X12_ask 49 rfl) ?_
      refine ev_i (fun x20 => ?_)
      refine ev_istore (ls' := [some (.ref 272), some (.int s34.1), some (.int s34.2.1), some (.int s34.2.2.1), some (.int (s49.1 + 1)), some (.int x20), some (.int s49.2.2.1)]) (ea_at dt_X12_ask 50 rfl) (ea_lt rfl) rfl ?_
      exact ev_drop (l' := [some (.ref 272), some (.int s34.1), some (.int s34.2.1), some (.int s34.2.2.1), some (.int (s49.1 + 1)), some (.int x20), some (.int s49.2.2.1)]) ⟨Or.inr rfl, Or.inr rfl, Or.inr rfl, Or.inr rfl, Or.inr rfl, Or.inr rfl, Or.inr rfl, trivial⟩ (jn_X12_ask_90 G s34 (s49.1 + 1) x20 s49.2.2.1 m17  hC hX)
set_option maxHeartbeats 300000 in
theorem jn_X12_ask_128 (G : ea_G) {res : ea_O}  (x22 : Int32) (x23 : Int32) (x24 : Int32) (m25 : ea_M)  {Φ : ((Int32 × Int32 × Int32 × ea_M) ⊕ (Int32 × ea_M)) → Prop} (hC : ∀ s34 : Int32 × Int32 × Int32 × ea_M, Φ (.inl s34) → ea_Ev G F_X12_ask res 34 [some (.ref 272), some (.int s34.1), some (.int s34.2.1), some (.int s34.2.2.1), none, none, none] [] s34.2.2.2 0 0) (hX : ∀ x34s : Int32 × ea_M, Φ (.inr x34s) → ea_Ev G F_X12_ask res 134 [none, some (.int x34s.1), none, none, none, none, none] [] x34s.2 0 0) : ea_E G F_X12_ask res 128 [some (.ref 272), some (.int x22), some (.int x23), some (.int x24), none, none, none] [] m25 0 0 (f_X12_ask_j128 x22 x23 x24 m25) Φ := by
  unfold f_X12_ask_j128
  refine ev_iinc (ls' := [some (.ref 272), some (.int x22), some (.int x23), some (.int (x24 + 1)), none, none, none]) (ea_at dt_X12_ask 70 rfl) rfl (congrArg (fun z => _ + z) ic_1) (ea_lt rfl) rfl ?_
  refine ev_goto (tgt := 34) (ea_at dt_X12_ask 71 rfl) rfl ?_
  exact ev_leaf (fun h => ea_drop (l' := [some (.ref 272), some (.int x22), some (.int x23), some (.int (x24 + 1)), none, none, none]) ⟨Or.inr rfl, Or.inr rfl, Or.inr rfl, Or.inr rfl, Or.inl rfl, Or.inl rfl, Or.inl rfl, trivial⟩ (hC (x22, x23, x24 + 1, m25) h))
set_option maxHeartbeats 300000 in
theorem lp_X12_ask_34 (G : ea_G) {res : ea_O}    {Ψ : (Int32 × ea_M) → Prop} (hX : ∀ x34s : Int32 × ea_M, Ψ x34s → ea_Ev G F_X12_ask res 134 [none, some (.int x34s.1), none, none, none, none, none] [] x34s.2 0 0) : ∀ (f : Nat) (s34 : Int32 × Int32 × Int32 × ea_M), ea_E G F_X12_ask res 34 [some (.ref 272), some (.int s34.1), some (.int s34.2.1), some (.int s34.2.2.1), none, none, none] [] s34.2.2.2 0 0 (ea_loop f_X12_ask_s34 f s34) Ψ := by
  refine ev_loop (G := G) (F := F_X12_ask) (res := res) (pc := 34) (st := []) (k := 0) (n := 0) (step := f_X12_ask_s34) (Ψ := Ψ) (fun (s34 : Int32 × Int32 × Int32 × ea_M) => [some (.ref 272), some (.int s34.1), some (.int s34.2.1), some (.int s34.2.2.1), none, none, none]) (fun (s34 : Int32 × Int32 × Int32 × ea_M) => s34.2.2.2) (fun s34 => ?_)
  have hC : ∀ s34 : Int32 × Int32 × Int32 × ea_M, (Sum.elim (fun s34 : Int32 × Int32 × Int32 × ea_M => ea_Ev G F_X12_ask res 34 [some (.ref 272), some (.int s34.1), some (.int s34.2.1), some (.int s34.2.2.1), none, none, none] [] s34.2.2.2 0 0) Ψ) (.inl s34) → ea_Ev G F_X12_ask res 34 [some (.ref 272), some (.int s34.1), some (.int s34.2.1), some (.int s34.2.2.1), none, none, none] [] s34.2.2.2 0 0 := fun _ h => h
  have hX : ∀ x34s : Int32 × ea_M, (Sum.elim (fun s34 : Int32 × Int32 × Int32 × ea_M => ea_Ev G F_X12_ask res 34 [some (.ref 272), some (.int s34.1), some (.int s34.2.1), some (.int s34.2.2.1), none, none, none] [] s34.2.2.2 0 0) Ψ) (.inr x34s) → ea_Ev G F_X12_ask res 134 [none, some (.int x34s.1), none, none, none, none, none] [] x34s.2 0 0 := hX
  unfold f_X12_ask_s34
  refine ev_iload_n (ea_at dt_X12_ask 20 rfl) rfl ?_
  refine ev_bipush (ea_at dt_X12_ask 21 rfl) bp_6 ?_
  refine ev_icmp_ge (tgt := 134) (ea_at dt_X12_ask 22 rfl) rfl (fun _ => ?_) (fun _ => ?_)
  · exact ev_leaf (fun h => ea_drop (l' := [none, some (.int s34.1), none, none, none, none, none]) ⟨Or.inl rfl, Or.inr rfl, Or.inl rfl, Or.inl rfl, Or.inl rfl, Or.inl rfl, Or.inl rfl, trivial⟩ (hX (s34.1, s34.2.2.2) h))
  · refine ev_iconst (ea_at dt_X12_ask 23 rfl) ic_0 ?_
    refine ev_istore (ls' := [some (.ref 272), some (.int s34.1), some (.int s34.2.1), some (.int s34.2.2.1), some (.int 0), none, none]) (ea_at dt_X12_ask 24 rfl) (ea_lt rfl) rfl ?_
    refine ev_iconst (ea_at dt_X12_ask 25 rfl) ic_0 ?_
    refine ev_istore (ls' := [some (.ref 272), some (.int s34.1), some (.int s34.2.1), some (.int s34.2.2.1), some (.int 0), some (.int 0), none]) (ea_at dt_X12_ask 26 rfl) (ea_lt rfl) rfl ?_
    refine ev_iconst (ea_at dt_X12_ask 27 rfl) ic_0 ?_
    refine ev_istore (ls' := [some (.ref 272), some (.int s34.1), some (.int s34.2.1), some (.int s34.2.2.1), some (.int 0), some (.int 0), some (.int 0)]) (ea_at dt_X12_ask 28 rfl) (ea_lt rfl) rfl ?_
    refine ev_drop (l' := [some (.ref 272), some (.int s34.1), some (.int s34.2.1), some (.int s34.2.2.1), some (.int 0), some (.int 0), some (.int 0)]) ⟨Or.inr rfl, Or.inr rfl, Or.inr rfl, Or.inr rfl, Or.inr rfl, Or.inr rfl, Or.inr rfl, trivial⟩ ?_
    refine ev_bind (lp_X12_ask_49 G s34   (fun x49s h => ?_) ea_fuel (0, 0, 0, s34.2.2.2))
    obtain ⟨t1, e1, q1⟩ := h
    refine (?_ : ea_E G F_X12_ask res 96 [some (.ref 272), some (.int s34.1), some (.int s34.2.1), some (.int s34.2.2.1), some (.int x49s.1), some (.int x49s.2.1), none] [] x49s.2.2 0 0 _ (Sum.elim (fun s34 : Int32 × Int32 × Int32 × ea_M => ea_Ev G F_X12_ask res 34 [some (.ref 272), some (.int s34.1), some (.int s34.2.1), some (.int s34.2.2.1), none, none, none] [] s34.2.2.2 0 0) Ψ)) t1 e1 q1
    refine ev_iload (ea_at dt_X12_ask 53 rfl) rfl ?_
    refine ev_iload (ea_at dt_X12_ask 54 rfl) rfl ?_
    refine ev_iload (ea_at dt_X12_ask 55 rfl) rfl ?_
    refine ev_isub (ea_at dt_X12_ask 56 rfl) ?_
    refine ev_mmax (ea_at dt_X12_ask 57 rfl) ml_X12_300 ea_maW_max ⟨by decide, Nat.le_of_ble_eq_true rfl, by decide, by decide⟩ ?_
    refine ev_i (fun x21 => ?_)
    refine ev_istore (ls' := [some (.ref 272), some (.int s34.1), some (.int s34.2.1), some (.int s34.2.2.1), some (.int x49s.1), some (.int x49s.2.1), some (.int x21)]) (ea_at dt_X12_ask 58 rfl) (ea_lt rfl) rfl ?_
    refine ev_iload (ea_at dt_X12_ask 59 rfl) rfl ?_
    refine ev_iconst (ea_at dt_X12_ask 60 rfl) ic_2 ?_
    refine ev_icmp_lt (tgt := 128) (ea_at dt_X12_ask 61 rfl) rfl (fun _ => ?_) (fun _ => ?_)
    · exact ev_drop (l' := [some (.ref 272), some (.int s34.1), some (.int s34.2.1), some (.int s34.2.2.1), none, none, none]) ⟨Or.inr rfl, Or.inr rfl, Or.inr rfl, Or.inr rfl, Or.inl rfl, Or.inl rfl, Or.inl rfl, trivial⟩ (jn_X12_ask_128 G s34.1 s34.2.1 s34.2.2.1 x49s.2.2  hC hX)
    · refine ev_iload (ea_at dt_X12_ask 62 rfl) rfl ?_
      refine ev_iload_n (ea_at dt_X12_ask 63 rfl) rfl ?_
      refine ev_icmp_lt (tgt := 123) (ea_at dt_X12_ask 64 rfl) rfl (fun _ => ?_) (fun _ => ?_)
      · refine ev_iload_n (ea_at dt_X12_ask 66 rfl) rfl ?_
        refine ev_istore_n (ls' := [some (.ref 272), some (.int s34.2.2.1), some (.int s34.2.1), some (.int s34.2.2.1), some (.int x49s.1), some (.int x49s.2.1), some (.int x21)]) (ea_at dt_X12_ask 67 rfl) (ea_lt rfl) rfl ?_
        refine ev_iload (ea_at dt_X12_ask 68 rfl) rfl ?_
        refine ev_istore_n (ls' := [some (.ref 272), some (.int s34.2.2.1), some (.int x21), some (.int s34.2.2.1), some (.int x49s.1), some (.int x49s.2.1), some (.int x21)]) (ea_at dt_X12_ask 69 rfl) (ea_lt rfl) rfl ?_
        exact ev_drop (l' := [some (.ref 272), some (.int s34.2.2.1), some (.int x21), some (.int s34.2.2.1), none, none, none]) ⟨Or.inr rfl, Or.inr rfl, Or.inr rfl, Or.inr rfl, Or.inl rfl, Or.inl rfl, Or.inl rfl, trivial⟩ (jn_X12_ask_128 G s34.2.2.1 x21 s34.2.2.1 x49s.2.2  hC hX)
      · refine ev_goto (tgt := 128) (ea_at dt_X12_ask 65 rfl) rfl ?_
        exact ev_drop (l' := [some (.ref 272), some (.int s34.1), some (.int s34.2.1), some (.int s34.2.2.1), none, none, none]) ⟨Or.inr rfl, Or.inr rfl, Or.inr rfl, Or.inr rfl, Or.inl rfl, Or.inl rfl, Or.inl rfl, trivial⟩ (jn_X12_ask_128 G s34.1 s34.2.1 s34.2.2.1 x49s.2.2  hC hX)
set_option maxHeartbeats 300000 in
theorem jn_X12_ask_17 (G : ea_G) {res : ea_O}  (x5 : Int32) (m6 : ea_M)  {Φ : (Int32 × ea_M) → Prop} (hR : ∀ t : Int32 × ea_M, Φ t → res = (0, t)) : ea_E G F_X12_ask res 17 [some (.ref 272), none, none, none, none, none, none] [.int x5, .ref 272] m6 0 0 (f_X12_ask_j17 x5 m6) Φ := by
  unfold f_X12_ask_j17
  refine ev_iconst (ea_at dt_X12_ask 9 rfl) ic_1 ?_
  refine ev_clI (F1 := F_X12_throwsIf) (fun rY mY hY => ea_runV (As := [.int x5, .int 1]) (ea_at dt_X12_ask 10 rfl) ml_X12_265 mv_X12_throwsIf (ok_X12_throwsIf G x5 1 m6  rY mY hY) sh_272 rfl rfl rfl (Nat.le_of_ble_eq_true rfl) rfl) rfl (fun r8 m7 => ?_)
  refine ev_if_eq (tgt := 26) (ea_at dt_X12_ask 11 rfl) rfl (fun _ => ?_) (fun _ => ?_)
  · refine ev_iconst (ea_at dt_X12_ask 14 rfl) ic_m1 ?_
    refine ev_istore_n (ls' := [some (.ref 272), some (.int (-1)), none, none, none, none, none]) (ea_at dt_X12_ask 15 rfl) (ea_lt rfl) rfl ?_
    refine ev_sipush (ea_at dt_X12_ask 16 rfl) sp_999 ?_
    refine ev_istore_n (ls' := [some (.ref 272), some (.int (-1)), some (.int 999), none, none, none, none]) (ea_at dt_X12_ask 17 rfl) (ea_lt rfl) rfl ?_
    refine ev_iconst (ea_at dt_X12_ask 18 rfl) ic_0 ?_
    refine ev_istore_n (ls' := [some (.ref 272), some (.int (-1)), some (.int 999), some (.int 0), none, none, none]) (ea_at dt_X12_ask 19 rfl) (ea_lt rfl) rfl ?_
    refine ev_drop (l' := [some (.ref 272), some (.int (-1)), some (.int 999), some (.int 0), none, none, none]) ⟨Or.inr rfl, Or.inr rfl, Or.inr rfl, Or.inr rfl, Or.inl rfl, Or.inl rfl, Or.inl rfl, trivial⟩ ?_
    refine ev_bind (lp_X12_ask_34 G   (fun x34s h => ?_) ea_fuel ((-1), 999, 0, m7))
    obtain ⟨t1, e1, q1⟩ := h
    refine (?_ : ea_E G F_X12_ask res 134 [none, some (.int x34s.1), none, none, none, none, none] [] x34s.2 0 0 _ Φ) t1 e1 q1
    refine ev_iload_n (ea_at dt_X12_ask 72 rfl) rfl ?_
    exact ev_iret (ea_at dt_X12_ask 73 rfl) rfl ⟨by decide, by decide⟩ (fun h => hR _ h)
  · refine ev_iconst (ea_at dt_X12_ask 12 rfl) ic_0 ?_
    exact ev_iret (ea_at dt_X12_ask 13 rfl) rfl ⟨by decide, by decide⟩ (fun h => hR _ h)
set_option maxHeartbeats 300000 in
theorem ok_X12_ask (G : ea_G) (m : ea_M)  (rZ : Int32) (mZ : ea_M) (hZ : f_X12_ask m = some (rZ, mZ)) : ea_Met G yX12_ask F_X12_ask [.ref 272] m (0, rZ, mZ) := by
  refine ea_met (F := F_X12_ask) (by decide +kernel) rfl rfl (Nat.le_of_ble_eq_true rfl) (by simp only [List.mem_cons, List.not_mem_nil, or_false]; intro v hv; rcases hv with rfl <;> rfl) ((?_ : ea_E G F_X12_ask (0, rZ, mZ) 0 [some (.ref 272), none, none, none, none, none, none] [] m 0 0 (f_X12_ask m) (fun t => t = (rZ, mZ))) (rZ, mZ) hZ rfl)
  have hR : ∀ t : Int32 × ea_M, t = (rZ, mZ) → ((0, rZ, mZ) : ea_O) = (0, t) := fun t h => by rw [h]
  unfold f_X12_ask
  refine ev_aload_n (ea_at dt_X12_ask 0 rfl) rfl ?_
  refine ev_clU (F1 := F_X12_uses) (fun rY mY hY => ea_runV (As := []) (ea_at dt_X12_ask 1 rfl) ml_X12_254 mv_X12_uses (ok_X12_uses G m  rY mY hY) sh_272 rfl rfl rfl (Nat.le_of_ble_eq_true rfl) rfl) rfl (fun r2 m1 => ?_)
  refine ev_aload_n (ea_at dt_X12_ask 2 rfl) rfl ?_
  refine ev_aload_n (ea_at dt_X12_ask 3 rfl) rfl ?_
  refine ev_clI (F1 := F_X12_isTold) (fun rY mY hY => ea_runV (As := []) (ea_at dt_X12_ask 4 rfl) ml_X12_438 mv_X12_isTold (ok_X12_isTold G m1  rY mY hY) sh_272 rfl rfl rfl (Nat.le_of_ble_eq_true rfl) rfl) rfl (fun r4 m3 => ?_)
  refine ev_if_ne (tgt := 16) (ea_at dt_X12_ask 5 rfl) rfl (fun _ => ?_) (fun _ => ?_)
  · refine ev_iconst (ea_at dt_X12_ask 6 rfl) ic_1 ?_
    refine ev_goto (tgt := 17) (ea_at dt_X12_ask 7 rfl) rfl ?_
    exact ev_drop (l' := [some (.ref 272), none, none, none, none, none, none]) ⟨Or.inr rfl, Or.inl rfl, Or.inl rfl, Or.inl rfl, Or.inl rfl, Or.inl rfl, Or.inl rfl, trivial⟩ (jn_X12_ask_17 G 1 m3  hR)
  · refine ev_iconst (ea_at dt_X12_ask 8 rfl) ic_0 ?_
    exact ev_drop (l' := [some (.ref 272), none, none, none, none, none, none]) ⟨Or.inr rfl, Or.inl rfl, Or.inl rfl, Or.inl rfl, Or.inl rfl, Or.inl rfl, Or.inl rfl, trivial⟩ (jn_X12_ask_17 G 0 m3  hR)
