def F_X11_weeks : ea_F := (ea_rm 11 1 6, cX11_weeks, RX11, some .int, 5, [], 1, 6)
def D_X11_weeks : List (Nat × Instr × Nat) := [(0, .aload_n 0, 1), (1, .iload_n 1, 1), (2, .iconst 1, 1), (3, .bipush 60, 2), (5, .invokevirtual 219, 3), (8, .aload_n 0, 1), (9, .invokevirtual 281, 3), (12, .iconst 0, 1), (13, .istore_n 2, 1), (14, .iconst 0, 1), (15, .istore_n 3, 1), (16, .iload_n 3, 1), (17, .aload_n 0, 1), (18, .getfield 23, 3), (21, .getfield 180, 3), (24, .getfield 236, 3), (27, .if_icmp .ge 58, 3), (30, .iconst 0, 1), (31, .istore 4, 2), (33, .iload 4, 2), (35, .aload_n 0, 1), (36, .getfield 23, 3), (39, .getfield 233, 3), (42, .if_icmp .ge 37, 3), (45, .iload_n 2, 1), (46, .aload_n 0, 1), (47, .getfield 23, 3), (50, .getfield 180, 3), (53, .iload_n 3, 1), (54, .iload 4, 2), (56, .iload_n 1, 1), (57, .aload_n 0, 1), (58, .getfield 23, 3), (61, .getfield 169, 3), (64, .iload 4, 2), (66, .iaload, 1), (67, .imul, 1), (68, .invokevirtual 284, 3), (71, .iadd, 1), (72, .istore_n 2, 1), (73, .iinc 4 1, 3), (76, .goto (-43), 3), (79, .iinc 3 1, 3), (82, .goto (-66), 3), (85, .aload_n 0, 1), (86, .getfield 23, 3), (89, .sipush 9999, 3), (92, .aload_n 0, 1), (93, .getfield 23, 3), (96, .getfield 242, 3), (99, .iload_n 1, 1), (100, .iadd, 1), (101, .invokestatic 311, 3), (104, .putfield 242, 3), (107, .iload_n 2, 1), (108, .ireturn, 1)]
theorem dt_X11_weeks : ∀ q ∈ D_X11_weeks, decode cX11_weeks q.1 = .ok q.2 := by decide +kernel
theorem mv_X11_weeks : ea_MV yX11_weeks (F_X11_weeks) 1 := ⟨⟨List.mem_append_right _ (List.mem_of_getElem? (i := 1) (by decide +kernel)), List.mem_append_right _ (List.mem_of_getElem? (i := 1178) (by decide +kernel)), ⟨by decide, by decide⟩, by decide +kernel⟩, List.mem_append_right _ (List.mem_of_getElem? (i := 1176) (by decide +kernel)), List.mem_append_right _ (List.mem_of_getElem? (i := 1177) (by decide +kernel))⟩
def f_X11_weeks_s33 (p1 : Int32) (s16 : Int32 × Int32 × ea_M)  (s33 : Int32 × Int32 × ea_M) : Option ((Int32 × Int32 × ea_M) ⊕ (Int32 × ea_M)) :=
  ea_bd (s33.2.2 2 8) fun x6 =>
  if x6 ≤ s33.2.1 then
  some (.inr (s33.1, s33.2.2))
  else
  ea_g s33.2.1 6 (ea_bd (s33.2.2 7 (Int32.toNatClampNeg s33.2.1)) fun x7 =>
  ea_cl (f_X1_add 8 s16.2.1 s33.2.1 (p1 * x7) s33.2.2) fun r9 m8 =>
  ea_bd (s33.1 + r9) fun x10 =>
  some (.inl (x10, s33.2.1 + 1, m8)))
def f_X11_weeks_s16 (p1 : Int32)  (s16 : Int32 × Int32 × ea_M) : Option ((Int32 × Int32 × ea_M) ⊕ (Int32 × ea_M)) :=
  ea_bd (s16.2.2 8 0) fun x5 =>
  if x5 ≤ s16.2.1 then
  some (.inr (s16.1, s16.2.2))
  else
  (ea_loop (f_X11_weeks_s33 p1 s16) ea_fuel (s16.1, 0, s16.2.2)).bind (fun x33s =>
  some (.inl (x33s.1, s16.2.1 + 1, x33s.2)))
def f_X11_weeks (p1 : Int32) (m : ea_M) : Option (ea_O) :=
  ea_cx (f_X11_needWithin p1 1 60 m) (fun r2 m1 =>
  ea_cl (f_X11_remember m1) fun r4 m3 =>
  (ea_loop (f_X11_weeks_s16 p1) ea_fuel (0, 0, m3)).bind (fun x16s =>
  ea_bd (x16s.2 2 5) fun x11 =>
  ea_bd (ea_min 9999 (x11 + p1)) fun x12 =>
  ea_bd (ea_st x16s.2 2 5 x12) fun m13 =>
  some (0, x16s.1, m13))) (fun kx mx => some (kx, 0, mx))
set_option maxHeartbeats 300000 in
theorem lp_X11_weeks_33 (G : ea_G) {res : ea_O}  (p1 : Int32) (s16 : Int32 × Int32 × ea_M)  {Ψ : (Int32 × ea_M) → Prop} (hX : ∀ x33s : Int32 × ea_M, Ψ x33s → ea_Ev G F_X11_weeks res 79 [some (.ref 0), some (.int p1), some (.int x33s.1), some (.int s16.2.1), none] [] x33s.2 1 6) : ∀ (f : Nat) (s33 : Int32 × Int32 × ea_M), ea_E G F_X11_weeks res 33 [some (.ref 0), some (.int p1), some (.int s33.1), some (.int s16.2.1), some (.int s33.2.1)] [] s33.2.2 1 6 (ea_loop (f_X11_weeks_s33 p1 s16) f s33) Ψ := by
  refine ev_loop (G := G) (F := F_X11_weeks) (res := res) (pc := 33) (st := []) (k := 1) (n := 6) (step := (f_X11_weeks_s33 p1 s16)) (Ψ := Ψ) (fun (s33 : Int32 × Int32 × ea_M) => [some (.ref 0), some (.int p1), some (.int s33.1), some (.int s16.2.1), some (.int s33.2.1)]) (fun (s33 : Int32 × Int32 × ea_M) => s33.2.2) (fun s33 => ?_)
  have hC : ∀ s33 : Int32 × Int32 × ea_M, (Sum.elim (fun s33 : Int32 × Int32 × ea_M => ea_Ev G F_X11_weeks res 33 [some (.ref 0), some (.int p1), some (.int s33.1), some (.int s16.2.1), some (.int s33.2.1)] [] s33.2.2 1 6) Ψ) (.inl s33) → ea_Ev G F_X11_weeks res 33 [some (.ref 0), some (.int p1), some (.int s33.1), some (.int s16.2.1), some (.int s33.2.1)] [] s33.2.2 1 6 := fun _ h => h
  have hX : ∀ x33s : Int32 × ea_M, (Sum.elim (fun s33 : Int32 × Int32 × ea_M => ea_Ev G F_X11_weeks res 33 [some (.ref 0), some (.int p1), some (.int s33.1), some (.int s16.2.1), some (.int s33.2.1)] [] s33.2.2 1 6) Ψ) (.inr x33s) → ea_Ev G F_X11_weeks res 79 [some (.ref 0), some (.int p1), some (.int x33s.1), some (.int s16.2.1), none] [] x33s.2 1 6 := hX
  unfold f_X11_weeks_s33
  refine ev_iload (ea_at dt_X11_weeks 19 rfl) rfl ?_
  refine ev_aload_n (ea_at dt_X11_weeks 20 rfl) rfl ?_
  refine ev_getR (ea_at dt_X11_weeks 21 rfl) fl_X11_23 sh_0 rfl ?_
  refine ev_getI (ea_at dt_X11_weeks 22 rfl) fl_X11_233 sh_2 rfl ?_
  refine ev_i (fun x6 => ?_)
  refine ev_icmp_ge (tgt := 79) (ea_at dt_X11_weeks 23 rfl) rfl (fun _ => ?_) (fun _ => ?_)
  · exact ev_leaf (fun h => ea_drop (l' := [some (.ref 0), some (.int p1), some (.int s33.1), some (.int s16.2.1), none]) ⟨Or.inr rfl, Or.inr rfl, Or.inr rfl, Or.inr rfl, Or.inl rfl, trivial⟩ (hX (s33.1, s33.2.2) h))
  · refine ev_iload_n (ea_at dt_X11_weeks 24 rfl) rfl ?_
    refine ev_aload_n (ea_at dt_X11_weeks 25 rfl) rfl ?_
    refine ev_getR (ea_at dt_X11_weeks 26 rfl) fl_X11_23 sh_0 rfl ?_
    refine ev_getR (ea_at dt_X11_weeks 27 rfl) fl_X11_180 sh_2 rfl ?_
    refine ev_iload_n (ea_at dt_X11_weeks 28 rfl) rfl ?_
    refine ev_iload (ea_at dt_X11_weeks 29 rfl) rfl ?_
    refine ev_iload_n (ea_at dt_X11_weeks 30 rfl) rfl ?_
    refine ev_aload_n (ea_at dt_X11_weeks 31 rfl) rfl ?_
    refine ev_getR (ea_at dt_X11_weeks 32 rfl) fl_X11_23 sh_0 rfl ?_
    refine ev_getR (ea_at dt_X11_weeks 33 rfl) fl_X11_169 sh_2 rfl ?_
    refine ev_iload (ea_at dt_X11_weeks 34 rfl) rfl ?_
    refine ev_iaload (ea_at dt_X11_weeks 35 rfl) sh_7 (by decide) ?_
    refine ev_i (fun x7 => ?_)
    refine ev_imul (ea_at dt_X11_weeks 36 rfl) ?_
    refine ev_clI (F1 := F_X1_add) (fun rY mY hY => ea_runV (As := [.int s16.2.1, .int s33.2.1, .int (p1 * x7)]) (ea_at dt_X11_weeks 37 rfl) ml_X11_284 mv_X1_add (ok_X1_add G 8 s16.2.1 s33.2.1 (p1 * x7) s33.2.2 is_Bench_8 rY mY hY) sh_8 rfl rfl rfl (Nat.le_of_ble_eq_true rfl) rfl) rfl (fun r9 m8 => ?_)
    refine ev_iadd (ea_at dt_X11_weeks 38 rfl) ?_
    refine ev_i (fun x10 => ?_)
    refine ev_istore_n (ls' := [some (.ref 0), some (.int p1), some (.int x10), some (.int s16.2.1), some (.int s33.2.1)]) (ea_at dt_X11_weeks 39 rfl) (ea_lt rfl) rfl ?_
    refine ev_iinc (ls' := [some (.ref 0), some (.int p1), some (.int x10), some (.int s16.2.1), some (.int (s33.2.1 + 1))]) (ea_at dt_X11_weeks 40 rfl) rfl (congrArg (fun z => _ + z) ic_1) (ea_lt rfl) rfl ?_
    refine ev_goto (tgt := 33) (ea_at dt_X11_weeks 41 rfl) rfl ?_
    exact ev_leaf (fun h => ea_drop (l' := [some (.ref 0), some (.int p1), some (.int x10), some (.int s16.2.1), some (.int (s33.2.1 + 1))]) ⟨Or.inr rfl, Or.inr rfl, Or.inr rfl, Or.inr rfl, Or.inr rfl, trivial⟩ (hC (x10, s33.2.1 + 1, m8) h))
set_option maxHeartbeats 300000 in
theorem lp_X11_weeks_16 (G : ea_G) {res : ea_O}  (p1 : Int32)  {Ψ : (Int32 × ea_M) → Prop} (hX : ∀ x16s : Int32 × ea_M, Ψ x16s → ea_Ev G F_X11_weeks res 85 [some (.ref 0), some (.int p1), some (.int x16s.1), none, none] [] x16s.2 1 6) : ∀ (f : Nat) (s16 : Int32 × Int32 × ea_M), ea_E G F_X11_weeks res 16 [some (.ref 0), some (.int p1), some (.int s16.1), some (.int s16.2.1), none] [] s16.2.2 1 6 (ea_loop (f_X11_weeks_s16 p1) f s16) Ψ := by
  refine ev_loop (G := G) (F := F_X11_weeks) (res := res) (pc := 16) (st := []) (k := 1) (n := 6) (step := (f_X11_weeks_s16 p1)) (Ψ := Ψ) (fun (s16 : Int32 × Int32 × ea_M) => [some (.ref 0), some (.int p1), some (.int s16.1), some (.int s16.2.1), none]) (fun (s16 : Int32 × Int32 × ea_M) => s16.2.2) (fun s16 => ?_)
  have hC : ∀ s16 : Int32 × Int32 × ea_M, (Sum.elim (fun s16 : Int32 × Int32 × ea_M => ea_Ev G F_X11_weeks res 16 [some (.ref 0), some (.int p1), some (.int s16.1), some (.int s16.2.1), none] [] s16.2.2 1 6) Ψ) (.inl s16) → ea_Ev G F_X11_weeks res 16 [some (.ref 0), some (.int p1), some (.int s16.1), some (.int s16.2.1), none] [] s16.2.2 1 6 := fun _ h => h
  have hX : ∀ x16s : Int32 × ea_M, (Sum.elim (fun s16 : Int32 × Int32 × ea_M => ea_Ev G F_X11_weeks res 16 [some (.ref 0), some (.int p1), some (.int s16.1), some (.int s16.2.1), none] [] s16.2.2 1 6) Ψ) (.inr x16s) → ea_Ev G F_X11_weeks res 85 [some (.ref 0), some (.int p1), some (.int x16s.1), none, none] [] x16s.2 1 6 := hX
  unfold f_X11_weeks_s16
  refine ev_iload_n (ea_at dt_X11_weeks 11 rfl) rfl ?_
  refine ev_aload_n (ea_at dt_X11_weeks 12 rfl) rfl ?_
  refine ev_getR (ea_at dt_X11_weeks 13 rfl) fl_X11_23 sh_0 rfl ?_
  refine ev_getR (ea_at dt_X11_weeks 14 rfl) fl_X11_180 sh_2 rfl ?_
  refine ev_getI (ea_at dt_X11_weeks 15 rfl) fl_X11_236 sh_8 rfl ?_
  refine ev_i (fun x5 => ?_)
  refine ev_icmp_ge (tgt := 85) (ea_at dt_X11_weeks 16 rfl) rfl (fun _ => ?_) (fun _ => ?_)
  · exact ev_leaf (fun h => ea_drop (l' := [some (.ref 0), some (.int p1), some (.int s16.1), none, none]) ⟨Or.inr rfl, Or.inr rfl, Or.inr rfl, Or.inl rfl, Or.inl rfl, trivial⟩ (hX (s16.1, s16.2.2) h))
  · refine ev_iconst (ea_at dt_X11_weeks 17 rfl) ic_0 ?_
    refine ev_istore (ls' := [some (.ref 0), some (.int p1), some (.int s16.1), some (.int s16.2.1), some (.int 0)]) (ea_at dt_X11_weeks 18 rfl) (ea_lt rfl) rfl ?_
    refine ev_drop (l' := [some (.ref 0), some (.int p1), some (.int s16.1), some (.int s16.2.1), some (.int 0)]) ⟨Or.inr rfl, Or.inr rfl, Or.inr rfl, Or.inr rfl, Or.inr rfl, trivial⟩ ?_
    refine ev_bind (lp_X11_weeks_33 G p1 s16   (fun x33s h => ?_) ea_fuel (s16.1, 0, s16.2.2))
    obtain ⟨t1, e1, q1⟩ := h
    refine (?_ : ea_E G F_X11_weeks res 79 [some (.ref 0), some (.int p1), some (.int x33s.1), some (.int s16.2.1), none] [] x33s.2 1 6 _ (Sum.elim (fun s16 : Int32 × Int32 × ea_M => ea_Ev G F_X11_weeks res 16 [some (.ref 0), some (.int p1), some (.int s16.1), some (.int s16.2.1), none] [] s16.2.2 1 6) Ψ)) t1 e1 q1
    refine ev_iinc (ls' := [some (.ref 0), some (.int p1), some (.int x33s.1), some (.int (s16.2.1 + 1)), none]) (ea_at dt_X11_weeks 42 rfl) rfl (congrArg (fun z => _ + z) ic_1) (ea_lt rfl) rfl ?_
    refine ev_goto (tgt := 16) (ea_at dt_X11_weeks 43 rfl) rfl ?_
    exact ev_leaf (fun h => ea_drop (l' := [some (.ref 0), some (.int p1), some (.int x33s.1), some (.int (s16.2.1 + 1)), none]) ⟨Or.inr rfl, Or.inr rfl, Or.inr rfl, Or.inr rfl, Or.inl rfl, trivial⟩ (hC (x33s.1, s16.2.1 + 1, x33s.2) h))
set_option maxHeartbeats 300000 in
theorem ok_X11_weeks (G : ea_G) (p1 : Int32) (m : ea_M)  (zZ : ea_O) (hZ : f_X11_weeks p1 m = some zZ) : ea_Met G yX11_weeks F_X11_weeks [.ref 0, .int p1] m zZ := by
  refine ea_met (F := F_X11_weeks) (by decide +kernel) rfl rfl (Nat.le_of_ble_eq_true rfl) (by simp only [List.mem_cons, List.not_mem_nil, or_false]; intro v hv; rcases hv with rfl | rfl <;> rfl) ((?_ : ea_E G F_X11_weeks zZ 0 [some (.ref 0), some (.int p1), none, none, none] [] m 0 0 (f_X11_weeks p1 m) (fun t => t = zZ)) zZ hZ rfl)
  have hR : ∀ t : ea_O, t = zZ → zZ = t := fun t h => h.symm
  unfold f_X11_weeks
  refine ev_aload_n (ea_at dt_X11_weeks 0 rfl) rfl ?_
  refine ev_iload_n (ea_at dt_X11_weeks 1 rfl) rfl ?_
  refine ev_iconst (ea_at dt_X11_weeks 2 rfl) ic_1 ?_
  refine ev_bipush (ea_at dt_X11_weeks 3 rfl) bp_60 ?_
  refine ev_cxU (F1 := F_X11_needWithin) rfl (fun zY hY => ea_runV (As := [.int p1, .int 1, .int 60]) (ea_at dt_X11_weeks 4 rfl) ml_X11_219 mv_X11_needWithin (ok_X11_needWithin G p1 1 60 m  zY hY) sh_0 rfl rfl rfl (Nat.le_of_ble_eq_true rfl) rfl) rfl ⟨by decide, by decide⟩ (fun kx mx t e q => ⟨0, by cases e; exact hR _ q⟩) (fun r2 m1 => ?_)
  refine ev_aload_n (ea_at dt_X11_weeks 5 rfl) rfl ?_
  refine ev_clU (F1 := F_X11_remember) (fun rY mY hY => ea_runV (As := []) (ea_at dt_X11_weeks 6 rfl) ml_X11_281 mv_X11_remember (ok_X11_remember G m1  rY mY hY) sh_0 rfl rfl rfl (Nat.le_of_ble_eq_true rfl) rfl) rfl (fun r4 m3 => ?_)
  refine ev_iconst (ea_at dt_X11_weeks 7 rfl) ic_0 ?_
  refine ev_istore_n (ls' := [some (.ref 0), some (.int p1), some (.int 0), none, none]) (ea_at dt_X11_weeks 8 rfl) (ea_lt rfl) rfl ?_
  refine ev_iconst (ea_at dt_X11_weeks 9 rfl) ic_0 ?_
  refine ev_istore_n (ls' := [some (.ref 0), some (.int p1), some (.int 0), some (.int 0), none]) (ea_at dt_X11_weeks 10 rfl) (ea_lt rfl) rfl ?_
  refine ev_drop (l' := [some (.ref 0), some (.int p1), some (.int 0), some (.int 0), none]) ⟨Or.inr rfl, Or.inr rfl, Or.inr rfl, Or.inr rfl, Or.inl rfl, trivial⟩ ?_
  refine ev_bind (lp_X11_weeks_16 G p1   (fun x16s h => ?_) ea_fuel (0, 0, m3))
  obtain ⟨t1, e1, q1⟩ := h
  refine (?_ : ea_E G F_X11_weeks zZ 85 [some (.ref 0), some (.int p1), some (.int x16s.1), none, none] [] x16s.2 1 6 _ (fun t => t = zZ)) t1 e1 q1
  refine ev_aload_n (ea_at dt_X11_weeks 44 rfl) rfl ?_
  refine ev_getR (ea_at dt_X11_weeks 45 rfl) fl_X11_23 sh_0 rfl ?_
  refine ev_sipush (ea_at dt_X11_weeks 46 rfl) sp_9999 ?_
  refine ev_aload_n (ea_at dt_X11_weeks 47 rfl) rfl ?_
  refine ev_getR (ea_at dt_X11_weeks 48 rfl) fl_X11_23 sh_0 rfl ?_
  refine ev_getI (ea_at dt_X11_weeks 49 rfl) fl_X11_242 sh_2 rfl ?_
  refine ev_i (fun x11 => ?_)
  refine ev_iload_n (ea_at dt_X11_weeks 50 rfl) rfl ?_
  refine ev_iadd (ea_at dt_X11_weeks 51 rfl) ?_
  refine ev_mmin (ea_at dt_X11_weeks 52 rfl) ml_X11_311 ea_maW_min ⟨by decide, Nat.le_of_ble_eq_true rfl, by decide, by decide⟩ ?_
  refine ev_i (fun x12 => ?_)
  refine ev_putI (ea_at dt_X11_weeks 53 rfl) fl_X11_242 fp_2_5 sh_2 rfl ?_
  refine ev_m (fun m13 => ?_)
  refine ev_iload_n (ea_at dt_X11_weeks 54 rfl) rfl ?_
  exact ev_iret (ea_at dt_X11_weeks 55 rfl) rfl ⟨by decide, by decide⟩ (fun h => hR _ h)
def F_X11_seed : ea_F := (ea_rm 8 0 0, cX11_seed, RX11, some .int, 3, [], 0, 0)
def D_X11_seed : List (Nat × Instr × Nat) := [(0, .aload_n 0, 1), (1, .getfield 23, 3), (4, .getfield 288, 3), (7, .istore_n 2, 1), (8, .aload_n 0, 1), (9, .getfield 23, 3), (12, .iload_n 1, 1), (13, .putfield 288, 3), (16, .iload_n 2, 1), (17, .ireturn, 1)]
theorem dt_X11_seed : ∀ q ∈ D_X11_seed, decode cX11_seed q.1 = .ok q.2 := by decide +kernel
theorem mv_X11_seed : ea_MV yX11_seed (F_X11_seed) 1 := ⟨⟨List.mem_append_right _ (List.mem_of_getElem? (i := 1) (by decide +kernel)), List.mem_append_right _ (List.mem_of_getElem? (i := 504) (by decide +kernel)), ⟨by decide, by decide⟩, by decide +kernel⟩, List.mem_append_right _ (List.mem_of_getElem? (i := 502) (by decide +kernel)), List.mem_append_right _ (List.mem_of_getElem? (i := 503) (by decide +kernel))⟩
def f_X11_seed (p1 : Int32) (m : ea_M) : Option (Int32 × ea_M) :=
  ea_bd (m 2 6) fun x1 =>
  ea_bd (ea_st m 2 6 p1) fun m2 =>
  some (x1, m2)
set_option maxHeartbeats 300000 in
theorem ok_X11_seed (G : ea_G) (p1 : Int32) (m : ea_M)  (rZ : Int32) (mZ : ea_M) (hZ : f_X11_seed p1 m = some (rZ, mZ)) : ea_Met G yX11_seed F_X11_seed [.ref 0, .int p1] m (0, rZ, mZ) := by
  refine ea_met (F := F_X11_seed) (by decide +kernel) rfl rfl (Nat.le_of_ble_eq_true rfl) (by simp only [List.mem_cons, List.not_mem_nil, or_false]; intro v hv; rcases hv with rfl | rfl <;> rfl) ((?_ : ea_E G F_X11_seed (0, rZ, mZ) 0 [some (.ref 0), some (.int p1), none] [] m 0 0 (f_X11_seed p1 m) (fun t => t = (rZ, mZ))) (rZ, mZ) hZ rfl)
  have hR : ∀ t : Int32 × ea_M, t = (rZ, mZ) → ((0, rZ, mZ) : ea_O) = (0, t) := fun t h => by rw [h]
  unfold f_X11_seed
  refine ev_aload_n (ea_at dt_X11_seed 0 rfl) rfl ?_
  refine ev_getR (ea_at dt_X11_seed 1 rfl) fl_X11_23 sh_0 rfl ?_
  refine ev_getI (ea_at dt_X11_seed 2 rfl) fl_X11_288 sh_2 rfl ?_
  refine ev_i (fun x1 => ?_)
  refine ev_istore_n (ls' := [some (.ref 0), some (.int p1), some (.int x1)]) (ea_at dt_X11_seed 3 rfl) (ea_lt rfl) rfl ?_
  refine ev_aload_n (ea_at dt_X11_seed 4 rfl) rfl ?_
  refine ev_getR (ea_at dt_X11_seed 5 rfl) fl_X11_23 sh_0 rfl ?_
  refine ev_iload_n (ea_at dt_X11_seed 6 rfl) rfl ?_
  refine ev_putI (ea_at dt_X11_seed 7 rfl) fl_X11_288 fp_2_6 sh_2 rfl ?_
  refine ev_m (fun m2 => ?_)
  refine ev_iload_n (ea_at dt_X11_seed 8 rfl) rfl ?_
  exact ev_iret (ea_at dt_X11_seed 9 rfl) rfl ⟨by decide, by decide⟩ (fun h => hR _ h)
def F_J7_fill_53178 : ea_F := (ea_rm 8 0 0, cJ7_fill_53178, RJ7, none, 4, [], 0, 0)
def D_J7_fill_53178 : List (Nat × Instr × Nat) := [(0, .iconst 0, 1), (1, .istore_n 2, 1), (2, .aload_n 0, 1), (3, .arraylength, 1), (4, .istore_n 3, 1), (5, .iload_n 2, 1), (6, .iload_n 3, 1), (7, .if_icmp .ge 13, 3), (10, .aload_n 0, 1), (11, .iload_n 2, 1), (12, .iload_n 1, 1), (13, .iastore, 1), (14, .iinc 2 1, 3), (17, .goto (-12), 3), (20, .return_, 1)]
theorem dt_J7_fill_53178 : ∀ q ∈ D_J7_fill_53178, decode cJ7_fill_53178 q.1 = .ok q.2 := by decide +kernel
theorem mv_J7_fill_53178 : ea_MS yJ7_fill_53178 (F_J7_fill_53178) 2 := ⟨⟨List.mem_append_right _ (List.mem_of_getElem? (i := 28) (by decide +kernel)), List.mem_append_right _ (List.mem_of_getElem? (i := 523) (by decide +kernel)), ⟨by decide, by decide⟩, by decide +kernel⟩, List.mem_append_right _ (List.mem_of_getElem? (i := 522) (by decide +kernel))⟩
def f_J7_fill_53178_s5 (p1 : Nat) (nn : Nat) (p2 : Int32) (x1 : Int32)  (s5 : Int32 × ea_M) : Option ((Int32 × ea_M) ⊕ (ea_M)) :=
  if x1 ≤ s5.1 then
  some (.inr s5.2)
  else
  ea_g s5.1 nn (ea_bd (ea_st s5.2 p1 (Int32.toNatClampNeg s5.1) p2) fun m2 =>
  some (.inl (s5.1 + 1, m2)))
def f_J7_fill_53178 (p1 : Nat) (nn : Nat) (p2 : Int32) (m : ea_M) : Option (Int32 × ea_M) :=
  ea_bd (Int32.ofNat nn) fun x1 =>
  (ea_loop (f_J7_fill_53178_s5 p1 nn p2 x1) ea_fuel (0, m)).bind (fun x5s =>
  some (0, x5s))
set_option maxHeartbeats 300000 in
theorem lp_J7_fill_53178_5 (G : ea_G) {res : ea_O}  (p1 : Nat) (nn : Nat) (p2 : Int32) (x1 : Int32) (hp1 : ea_sh p1 = .inl (0, nn)) (h0 : nn ≠ 0) {Ψ : ea_M → Prop} (hX : ∀ x5s : ea_M, Ψ x5s → ea_Ev G F_J7_fill_53178 res 20 [none, none, none, none] [] x5s 0 0) : ∀ (f : Nat) (s5 : Int32 × ea_M), ea_E G F_J7_fill_53178 res 5 [some (.ref p1), some (.int p2), some (.int s5.1), some (.int x1)] [] s5.2 0 0 (ea_loop (f_J7_fill_53178_s5 p1 nn p2 x1) f s5) Ψ := by
  refine ev_loop (G := G) (F := F_J7_fill_53178) (res := res) (pc := 5) (st := []) (k := 0) (n := 0) (step := (f_J7_fill_53178_s5 p1 nn p2 x1)) (Ψ := Ψ) (fun (s5 : Int32 × ea_M) => [some (.ref p1), some (.int p2), some (.int s5.1), some (.int x1)]) (fun (s5 : Int32 × ea_M) => s5.2) (fun s5 => ?_)
  have hC : ∀ s5 : Int32 × ea_M, (Sum.elim (fun s5 : Int32 × ea_M => ea_Ev G F_J7_fill_53178 res 5 [some (.ref p1), some (.int p2), some (.int s5.1), some (.int x1)] [] s5.2 0 0) Ψ) (.inl s5) → ea_Ev G F_J7_fill_53178 res 5 [some (.ref p1), some (.int p2), some (.int s5.1), some (.int x1)] [] s5.2 0 0 := fun _ h => h
  have hX : ∀ x5s : ea_M, (Sum.elim (fun s5 : Int32 × ea_M => ea_Ev G F_J7_fill_53178 res 5 [some (.ref p1), some (.int p2), some (.int s5.1), some (.int x1)] [] s5.2 0 0) Ψ) (.inr x5s) → ea_Ev G F_J7_fill_53178 res 20 [none, none, none, none] [] x5s 0 0 := hX
  unfold f_J7_fill_53178_s5
  refine ev_iload_n (ea_at dt_J7_fill_53178 5 rfl) rfl ?_
  refine ev_iload_n (ea_at dt_J7_fill_53178 6 rfl) rfl ?_
  refine ev_icmp_ge (tgt := 20) (ea_at dt_J7_fill_53178 7 rfl) rfl (fun _ => ?_) (fun _ => ?_)
  · exact ev_leaf (fun h => ea_drop (l' := [none, none, none, none]) ⟨Or.inl rfl, Or.inl rfl, Or.inl rfl, Or.inl rfl, trivial⟩ (hX s5.2 h))
  · refine ev_aload_n (ea_at dt_J7_fill_53178 8 rfl) rfl ?_
    refine ev_iload_n (ea_at dt_J7_fill_53178 9 rfl) rfl ?_
    refine ev_iload_n (ea_at dt_J7_fill_53178 10 rfl) rfl ?_
    refine ev_iastore (ea_at dt_J7_fill_53178 11 rfl) hp1 h0 ?_
    refine ev_m (fun m2 => ?_)
    refine ev_iinc (ls' := [some (.ref p1), some (.int p2), some (.int (s5.1 + 1)), some (.int x1)]) (ea_at dt_J7_fill_53178 12 rfl) rfl (congrArg (fun z => _ + z) ic_1) (ea_lt rfl) rfl ?_
    refine ev_goto (tgt := 5) (ea_at dt_J7_fill_53178 13 rfl) rfl ?_
    exact ev_leaf (fun h => ea_drop (l' := [some (.ref p1), some (.int p2), some (.int (s5.1 + 1)), some (.int x1)]) ⟨Or.inr rfl, Or.inr rfl, Or.inr rfl, Or.inr rfl, trivial⟩ (hC (s5.1 + 1, m2) h))
set_option maxHeartbeats 300000 in
theorem ok_J7_fill_53178 (G : ea_G) (p1 : Nat) (nn : Nat) (p2 : Int32) (m : ea_M) (hp1 : ea_sh p1 = .inl (0, nn)) (h0 : nn ≠ 0) (rZ : Int32) (mZ : ea_M) (hZ : f_J7_fill_53178 p1 nn p2 m = some (rZ, mZ)) : ea_Met G yJ7_fill_53178 F_J7_fill_53178 [.ref p1, .int p2] m (0, rZ, mZ) := by
  refine ea_met (F := F_J7_fill_53178) (by decide +kernel) rfl rfl (Nat.le_of_ble_eq_true rfl) (by simp only [List.mem_cons, List.not_mem_nil, or_false]; intro v hv; rcases hv with rfl | rfl <;> rfl) ((?_ : ea_E G F_J7_fill_53178 (0, rZ, mZ) 0 [some (.ref p1), some (.int p2), none, none] [] m 0 0 (f_J7_fill_53178 p1 nn p2 m) (fun t => t = (rZ, mZ))) (rZ, mZ) hZ rfl)
  have hR : ∀ t : Int32 × ea_M, t = (rZ, mZ) → ((0, rZ, mZ) : ea_O) = (0, t) := fun t h => by rw [h]
  unfold f_J7_fill_53178
  refine ev_iconst (ea_at dt_J7_fill_53178 0 rfl) ic_0 ?_
  refine ev_istore_n (ls' := [some (.ref p1), some (.int p2), some (.int 0), none]) (ea_at dt_J7_fill_53178 1 rfl) (ea_lt rfl) rfl ?_
  refine ev_aload_n (ea_at dt_J7_fill_53178 2 rfl) rfl ?_
  refine ev_alen (ea_at dt_J7_fill_53178 3 rfl) hp1 h0 (by decide) rfl ?_
  refine ev_i (fun x1 => ?_)
  refine ev_istore_n (ls' := [some (.ref p1), some (.int p2), some (.int 0), some (.int x1)]) (ea_at dt_J7_fill_53178 4 rfl) (ea_lt rfl) rfl ?_
  refine ev_drop (l' := [some (.ref p1), some (.int p2), some (.int 0), some (.int x1)]) ⟨Or.inr rfl, Or.inr rfl, Or.inr rfl, Or.inr rfl, trivial⟩ ?_
  refine ev_bind (lp_J7_fill_53178_5 G p1 nn p2 x1 hp1 h0  (fun x5s h => ?_) ea_fuel (0, m))
  obtain ⟨t1, e1, q1⟩ := h
  refine (?_ : ea_E G F_J7_fill_53178 (0, rZ, mZ) 20 [none, none, none, none] [] x5s 0 0 _ (fun t => t = (rZ, mZ))) t1 e1 q1
  exact ev_vret (ea_at dt_J7_fill_53178 14 rfl) rfl ⟨by decide, by decide⟩ (fun h => ⟨0, hR _ h⟩)
def F_X4_clear : ea_F := (ea_rm 9 0 0, cX4_clear, RX4, none, 1, [], 0, 0)
def D_X4_clear : List (Nat × Instr × Nat) := [(0, .aload_n 0, 1), (1, .iconst 0, 1), (2, .putfield 9, 3), (5, .aload_n 0, 1), (6, .iconst 0, 1), (7, .putfield 15, 3), (10, .aload_n 0, 1), (11, .getfield 18, 3), (14, .iconst 0, 1), (15, .invokestatic 25, 3), (18, .aload_n 0, 1), (19, .getfield 22, 3), (22, .iconst 0, 1), (23, .invokestatic 25, 3), (26, .return_, 1)]
theorem dt_X4_clear : ∀ q ∈ D_X4_clear, decode cX4_clear q.1 = .ok q.2 := by decide +kernel
theorem mv_X4_clear : ea_MV yX4_clear (F_X4_clear) 0 := ⟨⟨List.mem_append_right _ (List.mem_of_getElem? (i := 12) (by decide +kernel)), List.mem_append_right _ (List.mem_of_getElem? (i := 520) (by decide +kernel)), ⟨by decide, by decide⟩, by decide +kernel⟩, List.mem_append_right _ (List.mem_of_getElem? (i := 518) (by decide +kernel)), List.mem_append_right _ (List.mem_of_getElem? (i := 519) (by decide +kernel))⟩
def f_X4_clear (a : Nat) (m : ea_M) : Option (Int32 × ea_M) :=
  ea_bd (ea_st m a 0 0) fun m1 =>
  ea_bd (ea_st m1 a 1 0) fun m2 =>
  ea_cl (f_J7_fill_53178 (a + 1) 128 0 m2) fun r4 m3 =>
  ea_cl (f_J7_fill_53178 (a + 2) 9 0 m3) fun r6 m5 =>
  some (0, m5)
set_option maxHeartbeats 300000 in
theorem ok_X4_clear (G : ea_G) (a : Nat) (m : ea_M) (ha : ea_isFates a) (rZ : Int32) (mZ : ea_M) (hZ : f_X4_clear a m = some (rZ, mZ)) : ea_Met G yX4_clear F_X4_clear [.ref a] m (0, rZ, mZ) := by
  refine ea_met (F := F_X4_clear) (by decide +kernel) rfl rfl (Nat.le_of_ble_eq_true rfl) (by simp only [List.mem_cons, List.not_mem_nil, or_false]; intro v hv; rcases hv with rfl <;> rfl) ((?_ : ea_E G F_X4_clear (0, rZ, mZ) 0 [some (.ref a)] [] m 0 0 (f_X4_clear a m) (fun t => t = (rZ, mZ))) (rZ, mZ) hZ rfl)
  have hR : ∀ t : Int32 × ea_M, t = (rZ, mZ) → ((0, rZ, mZ) : ea_O) = (0, t) := fun t h => by rw [h]
  unfold f_X4_clear
  refine ev_aload_n (ea_at dt_X4_clear 0 rfl) rfl ?_
  refine ev_iconst (ea_at dt_X4_clear 1 rfl) ic_0 ?_
  refine ev_putI (ea_at dt_X4_clear 2 rfl) fl_X4_9 fp_4_0 ha.1 rfl ?_
  refine ev_m (fun m1 => ?_)
  refine ev_aload_n (ea_at dt_X4_clear 3 rfl) rfl ?_
  refine ev_iconst (ea_at dt_X4_clear 4 rfl) ic_0 ?_
  refine ev_putI (ea_at dt_X4_clear 5 rfl) fl_X4_15 fp_4_1 ha.1 rfl ?_
  refine ev_m (fun m2 => ?_)
  refine ev_aload_n (ea_at dt_X4_clear 6 rfl) rfl ?_
  refine ev_getR (ea_at dt_X4_clear 7 rfl) fl_X4_18 ha.1 rfl ?_
  refine ev_iconst (ea_at dt_X4_clear 8 rfl) ic_0 ?_
  refine ev_clU (F1 := F_J7_fill_53178) (fun rY mY hY => ea_runS (As := [.ref (a + 1), .int 0]) (ea_at dt_X4_clear 9 rfl) ml_X4_25 mv_J7_fill_53178 (ok_J7_fill_53178 G (a + 1) 128 0 m2 ha.2.1 (by decide) rY mY hY) rfl rfl (Nat.le_of_ble_eq_true rfl) rfl) rfl (fun r4 m3 => ?_)
  refine ev_aload_n (ea_at dt_X4_clear 10 rfl) rfl ?_
  refine ev_getR (ea_at dt_X4_clear 11 rfl) fl_X4_22 ha.1 rfl ?_
  refine ev_iconst (ea_at dt_X4_clear 12 rfl) ic_0 ?_
  refine ev_clU (F1 := F_J7_fill_53178) (fun rY mY hY => ea_runS (As := [.ref (a + 2), .int 0]) (ea_at dt_X4_clear 13 rfl) ml_X4_25 mv_J7_fill_53178 (ok_J7_fill_53178 G (a + 2) 9 0 m3 ha.2.2 (by decide) rY mY hY) rfl rfl (Nat.le_of_ble_eq_true rfl) rfl) rfl (fun r6 m5 => ?_)
  exact ev_vret (ea_at dt_X4_clear 14 rfl) rfl ⟨by decide, by decide⟩ (fun h => ⟨0, hR _ h⟩)
def F_X4_land : ea_F := (ea_rm 8 0 0, cX4_land, RX4, none, 5, [], 0, 0)
def D_X4_land : List (Nat × Instr × Nat) := [(0, .aload_n 0, 1), (1, .getfield 18, 3), (4, .iload_n 2, 1), (5, .iconst 1, 1), (6, .isub, 1), (7, .bipush 16, 2), (9, .imul, 1), (10, .iload_n 1, 1), (11, .iadd, 1), (12, .dup2, 1), (13, .iaload, 1), (14, .iload_n 3, 1), (15, .iadd, 1), (16, .iastore, 1), (17, .aload_n 0, 1), (18, .getfield 22, 3), (21, .iload_n 2, 1), (22, .dup2, 1), (23, .iaload, 1), (24, .iload 4, 2), (26, .ifCond .eq 7, 3), (29, .iload_n 3, 1), (30, .goto 4, 3), (33, .iconst 0, 1), (34, .iadd, 1), (35, .iastore, 1), (36, .return_, 1)]
theorem dt_X4_land : ∀ q ∈ D_X4_land, decode cX4_land q.1 = .ok q.2 := by decide +kernel
theorem mv_X4_land : ea_MV yX4_land (F_X4_land) 4 := ⟨⟨List.mem_append_right _ (List.mem_of_getElem? (i := 12) (by decide +kernel)), List.mem_append_right _ (List.mem_of_getElem? (i := 564) (by decide +kernel)), ⟨by decide, by decide⟩, by decide +kernel⟩, List.mem_append_right _ (List.mem_of_getElem? (i := 562) (by decide +kernel)), List.mem_append_right _ (List.mem_of_getElem? (i := 563) (by decide +kernel))⟩
def f_X4_land_j34 (a : Nat) (x5 : Int32) (x6 : Int32) (x7 : Int32) (m8 : ea_M) : Option (Int32 × ea_M) :=
  ea_g x5 9 (ea_bd (ea_st m8 (a + 2) (Int32.toNatClampNeg x5) (x6 + x7)) fun m9 =>
  some (0, m9))
def f_X4_land (a : Nat) (p1 : Int32) (p2 : Int32) (p3 : Int32) (p4 : Int32) (m : ea_M) : Option (Int32 × ea_M) :=
  ea_bd ((p2 - 1) * 16) fun x1 =>
  ea_g (x1 + p1) 128 (ea_bd (m (a + 1) (Int32.toNatClampNeg (x1 + p1))) fun x2 =>
  ea_g (x1 + p1) 128 (ea_bd (ea_st m (a + 1) (Int32.toNatClampNeg (x1 + p1)) (x2 + p3)) fun m3 =>
  ea_g p2 9 (ea_bd (m3 (a + 2) (Int32.toNatClampNeg p2)) fun x4 =>
  if p4 = 0 then
  f_X4_land_j34 a p2 x4 0 m3
  else
  f_X4_land_j34 a p2 x4 p3 m3)))
set_option maxHeartbeats 300000 in
theorem jn_X4_land_34 (G : ea_G) {res : ea_O}  (a : Nat) (x5 : Int32) (x6 : Int32) (x7 : Int32) (m8 : ea_M) (ha : ea_isFates a) {Φ : (Int32 × ea_M) → Prop} (hR : ∀ t : Int32 × ea_M, Φ t → res = (0, t)) : ea_E G F_X4_land res 34 [none, none, none, none, none] [.int x7, .int x6, .int x5, .ref (a + 2)] m8 0 0 (f_X4_land_j34 a x5 x6 x7 m8) Φ := by
  unfold f_X4_land_j34
  refine ev_iadd (ea_at dt_X4_land 24 rfl) ?_
  refine ev_iastore (ea_at dt_X4_land 25 rfl) ha.2.2 (by decide) ?_
  refine ev_m (fun m9 => ?_)
  exact ev_vret (ea_at dt_X4_land 26 rfl) rfl ⟨by decide, by decide⟩ (fun h => ⟨0, hR _ h⟩)
set_option maxHeartbeats 300000 in
theorem ok_X4_land (G : ea_G) (a : Nat) (p1 : Int32) (p2 : Int32) (p3 : Int32) (p4 : Int32) (m : ea_M) (ha : ea_isFates a) (rZ : Int32) (mZ : ea_M) (hZ : f_X4_land a p1 p2 p3 p4 m = some (rZ, mZ)) : ea_Met G yX4_land F_X4_land [.ref a, .int p1, .int p2, .int p3, .int p4] m (0, rZ, mZ) := by
  refine ea_met (F := F_X4_land) (by decide +kernel) rfl rfl (Nat.le_of_ble_eq_true rfl) (by simp only [List.mem_cons, List.not_mem_nil, or_false]; intro v hv; rcases hv with rfl | rfl | rfl | rfl | rfl <;> rfl) ((?_ : ea_E G F_X4_land (0, rZ, mZ) 0 [some (.ref a), some (.int p1), some (.int p2), some (.int p3), some (.int p4)] [] m 0 0 (f_X4_land a p1 p2 p3 p4 m) (fun t => t = (rZ, mZ))) (rZ, mZ) hZ rfl)
  have hR : ∀ t : Int32 × ea_M, t = (rZ, mZ) → ((0, rZ, mZ) : ea_O) = (0, t) := fun t h => by rw [h]
  unfold f_X4_land
  refine ev_aload_n (ea_at dt_X4_land 0 rfl) rfl ?_
  refine ev_getR (ea_at dt_X4_land 1 rfl) fl_X4_18 ha.1 rfl ?_
  refine ev_iload_n (ea_at dt_X4_land 2 rfl) rfl ?_
  refine ev_iconst (ea_at dt_X4_land 3 rfl) ic_1 ?_
  refine ev_isub (ea_at dt_X4_land 4 rfl) ?_
  refine ev_bipush (ea_at dt_X4_land 5 rfl) bp_16 ?_
  refine ev_imul (ea_at dt_X4_land 6 rfl) ?_
  refine ev_i (fun x1 => ?_)
  refine ev_iload_n (ea_at dt_X4_land 7 rfl) rfl ?_
  refine ev_iadd (ea_at dt_X4_land 8 rfl) ?_
  refine ev_dup2 (ea_at dt_X4_land 9 rfl) rfl rfl ?_
  refine ev_iaload (ea_at dt_X4_land 10 rfl) ha.2.1 (by decide) ?_
  refine ev_i (fun x2 => ?_)
  refine ev_iload_n (ea_at dt_X4_land 11 rfl) rfl ?_
  refine ev_iadd (ea_at dt_X4_land 12 rfl) ?_
  refine ev_iastore (ea_at dt_X4_land 13 rfl) ha.2.1 (by decide) ?_
  refine ev_m (fun m3 => ?_)
  refine ev_aload_n (ea_at dt_X4_land 14 rfl) rfl ?_
  refine ev_getR (ea_at dt_X4_land 15 rfl) fl_X4_22 ha.1 rfl ?_
  refine ev_iload_n (ea_at dt_X4_land 16 rfl) rfl ?_
  refine ev_dup2 (ea_at dt_X4_land 17 rfl) rfl rfl ?_
  refine ev_iaload (ea_at dt_X4_land 18 rfl) ha.2.2 (by decide) ?_
  refine ev_i (fun x4 => ?_)
  refine ev_iload (ea_at dt_X4_land 19 rfl) rfl ?_
  refine ev_if_eq (tgt := 33) (ea_at dt_X4_land 20 rfl) rfl (fun _ => ?_) (fun _ => ?_)
  · refine ev_iconst (ea_at dt_X4_land 23 rfl) ic_0 ?_
    exact ev_drop (l' := [none, none, none, none, none]) ⟨Or.inl rfl, Or.inl rfl, Or.inl rfl, Or.inl rfl, Or.inl rfl, trivial⟩ (jn_X4_land_34 G a p2 x4 0 m3 ha hR)
  · refine ev_iload_n (ea_at dt_X4_land 21 rfl) rfl ?_
    refine ev_goto (tgt := 34) (ea_at dt_X4_land 22 rfl) rfl ?_
    exact ev_drop (l' := [none, none, none, none, none]) ⟨Or.inl rfl, Or.inl rfl, Or.inl rfl, Or.inl rfl, Or.inl rfl, trivial⟩ (jn_X4_land_34 G a p2 x4 p3 m3 ha hR)
def F_X10_settle : ea_F := (ea_rm 9 0 0, cX10_settle, RX10, none, 6, [], 0, 0)
def D_X10_settle : List (Nat × Instr × Nat) := [(0, .iload_n 2, 1), (1, .ifCond .lt 9, 3), (4, .iload_n 2, 1), (5, .bipush 16, 2), (7, .if_icmp .lt 24, 3), (10, .aload 5, 2), (12, .dup, 1), (13, .getfield 78, 3), (16, .iload 4, 2), (18, .getstatic 81, 3), (21, .iload_n 3, 1), (22, .iaload, 1), (23, .imul, 1), (24, .iadd, 1), (25, .putfield 78, 3), (28, .goto 52, 3), (31, .iload_n 1, 1), (32, .ifCond .gt 32, 3), (35, .aload 5, 2), (37, .iload_n 2, 1), (38, .iload_n 3, 1), (39, .iload 4, 2), (41, .getstatic 81, 3), (44, .iload_n 3, 1), (45, .iaload, 1), (46, .imul, 1), (47, .aload_n 0, 1), (48, .getfield 18, 3), (51, .getfield 33, 3), (54, .iload_n 2, 1), (55, .invokevirtual 84, 3), (58, .invokevirtual 88, 3), (61, .goto 19, 3), (64, .aload_n 0, 1), (65, .getfield 15, 3), (68, .iload_n 1, 1), (69, .bipush 16, 2), (71, .imul, 1), (72, .iload_n 2, 1), (73, .iadd, 1), (74, .dup2, 1), (75, .iaload, 1), (76, .iload 4, 2), (78, .iadd, 1), (79, .iastore, 1), (80, .return_, 1)]
theorem dt_X10_settle : ∀ q ∈ D_X10_settle, decode cX10_settle q.1 = .ok q.2 := by decide +kernel
theorem mv_X10_settle : ea_MV yX10_settle (F_X10_settle) 5 := ⟨⟨List.mem_append_right _ (List.mem_of_getElem? (i := 11) (by decide +kernel)), List.mem_append_right _ (List.mem_of_getElem? (i := 557) (by decide +kernel)), ⟨by decide, by decide⟩, by decide +kernel⟩, List.mem_append_right _ (List.mem_of_getElem? (i := 556) (by decide +kernel)), List.mem_append_left _ (List.mem_of_getElem? (i := 4) (by decide +kernel))⟩
def f_X10_settle_j10 (p3 : Int32) (p4 : Int32) (p5 : Nat) (m1 : ea_M) : Option (Int32 × ea_M) :=
  ea_bd (m1 p5 0) fun x2 =>
  ea_g p3 9 (ea_bd (ea_rows.getD (Int32.toNatClampNeg p3) 0) fun x3 =>
  ea_bd (x2 + (p4 * x3)) fun x4 =>
  ea_bd (ea_st m1 p5 0 x4) fun m5 =>
  some (0, m5))
def f_X10_settle (p1 : Int32) (p2 : Int32) (p3 : Int32) (p4 : Int32) (p5 : Nat) (m : ea_M) : Option (Int32 × ea_M) :=
  if p2 < 0 then
  f_X10_settle_j10 p3 p4 p5 m
  else
  if p2 < 16 then
  if 0 < p1 then
  ea_bd ((p1 * 16) + p2) fun x6 =>
  ea_g x6 208 (ea_bd (m 78 (Int32.toNatClampNeg x6)) fun x7 =>
  ea_g x6 208 (ea_bd (ea_st m 78 (Int32.toNatClampNeg x6) (x7 + p4)) fun m8 =>
  some (0, m8)))
  else
  ea_g p3 9 (ea_bd (ea_rows.getD (Int32.toNatClampNeg p3) 0) fun x9 =>
  ea_cl (f_X2_isYard 2 p2 m) fun r11 m10 =>
  ea_cl (f_X4_land p5 p2 p3 (p4 * x9) r11 m10) fun r13 m12 =>
  some (0, m12))
  else
  f_X10_settle_j10 p3 p4 p5 m
set_option maxHeartbeats 300000 in
theorem jn_X10_settle_10 (G : ea_G) {res : ea_O}  (p3 : Int32) (p4 : Int32) (p5 : Nat) (m1 : ea_M) (hp5 : ea_isFates p5) {Φ : (Int32 × ea_M) → Prop} (hR : ∀ t : Int32 × ea_M, Φ t → res = (0, t)) : ea_E G F_X10_settle res 10 [none, none, none, some (.int p3), some (.int p4), some (.ref p5)] [] m1 0 0 (f_X10_settle_j10 p3 p4 p5 m1) Φ := by
  unfold f_X10_settle_j10
  refine ev_aload (ea_at dt_X10_settle 5 rfl) rfl ?_
  refine ev_dup (ea_at dt_X10_settle 6 rfl) rfl ?_
  refine ev_getI (ea_at dt_X10_settle 7 rfl) fl_X10_78 hp5.1 rfl ?_
  refine ev_i (fun x2 => ?_)
  refine ev_iload (ea_at dt_X10_settle 8 rfl) rfl ?_
  refine ev_rowsget (ea_at dt_X10_settle 9 rfl) flw_X10_81 ?_
  refine ev_iload_n (ea_at dt_X10_settle 10 rfl) rfl ?_
  refine ev_rowsld (ea_at dt_X10_settle 11 rfl) ?_
  refine ev_i (fun x3 => ?_)
  refine ev_imul (ea_at dt_X10_settle 12 rfl) ?_
  refine ev_iadd (ea_at dt_X10_settle 13 rfl) ?_
  refine ev_i (fun x4 => ?_)
  refine ev_putI (ea_at dt_X10_settle 14 rfl) fl_X10_78 fp_4_0 hp5.1 rfl ?_
  refine ev_m (fun m5 => ?_)
  refine ev_goto (tgt := 80) (ea_at dt_X10_settle 15 rfl) rfl ?_
  exact ev_vret (ea_at dt_X10_settle 45 rfl) rfl ⟨by decide, by decide⟩ (fun h => ⟨0, hR _ h⟩)
set_option maxHeartbeats 300000 in
theorem ok_X10_settle (G : ea_G) (p1 : Int32) (p2 : Int32) (p3 : Int32) (p4 : Int32) (p5 : Nat) (m : ea_M) (hp5 : ea_isFates p5) (rZ : Int32) (mZ : ea_M) (hZ : f_X10_settle p1 p2 p3 p4 p5 m = some (rZ, mZ)) : ea_Met G yX10_settle F_X10_settle [.ref 76, .int p1, .int p2, .int p3, .int p4, .ref p5] m (0, rZ, mZ) := by
  refine ea_met (F := F_X10_settle) (by decide +kernel) rfl rfl (Nat.le_of_ble_eq_true rfl) (by simp only [List.mem_cons, List.not_mem_nil, or_false]; intro v hv; rcases hv with rfl | rfl | rfl | rfl | rfl | rfl <;> rfl) ((?_ : ea_E G F_X10_settle (0, rZ, mZ) 0 [some (.ref 76), some (.int p1), some (.int p2), some (.int p3), some (.int p4), some (.ref p5)] [] m 0 0 (f_X10_settle p1 p2 p3 p4 p5 m) (fun t => t = (rZ, mZ))) (rZ, mZ) hZ rfl)
  have hR : ∀ t : Int32 × ea_M, t = (rZ, mZ) → ((0, rZ, mZ) : ea_O) = (0, t) := fun t h => by rw [h]
  unfold f_X10_settle
  refine ev_iload_n (ea_at dt_X10_settle 0 rfl) rfl ?_
  refine ev_if_lt (tgt := 10) (ea_at dt_X10_settle 1 rfl) rfl (fun _ => ?_) (fun _ => ?_)
  · exact ev_drop (l' := [none, none, none, some (.int p3), some (.int p4), some (.ref p5)]) ⟨Or.inl rfl, Or.inl rfl, Or.inl rfl, Or.inr rfl, Or.inr rfl, Or.inr rfl, trivial⟩ (jn_X10_settle_10 G p3 p4 p5 m hp5 hR)
  · refine ev_iload_n (ea_at dt_X10_settle 2 rfl) rfl ?_
    refine ev_bipush (ea_at dt_X10_settle 3 rfl) bp_16 ?_
    refine ev_icmp_lt (tgt := 31) (ea_at dt_X10_settle 4 rfl) rfl (fun _ => ?_) (fun _ => ?_)
    · refine ev_iload_n (ea_at dt_X10_settle 16 rfl) rfl ?_
      refine ev_if_gt (tgt := 64) (ea_at dt_X10_settle 17 rfl) rfl (fun _ => ?_) (fun _ => ?_)
      · refine ev_aload_n (ea_at dt_X10_settle 33 rfl) rfl ?_
        refine ev_getR (ea_at dt_X10_settle 34 rfl) fl_X10_15 sh_76 rfl ?_
        refine ev_iload_n (ea_at dt_X10_settle 35 rfl) rfl ?_
        refine ev_bipush (ea_at dt_X10_settle 36 rfl) bp_16 ?_
        refine ev_imul (ea_at dt_X10_settle 37 rfl) ?_
        refine ev_iload_n (ea_at dt_X10_settle 38 rfl) rfl ?_
        refine ev_iadd (ea_at dt_X10_settle 39 rfl) ?_
        refine ev_i (fun x6 => ?_)
        refine ev_dup2 (ea_at dt_X10_settle 40 rfl) rfl rfl ?_
        refine ev_iaload (ea_at dt_X10_settle 41 rfl) sh_78 (by decide) ?_
        refine ev_i (fun x7 => ?_)
        refine ev_iload (ea_at dt_X10_settle 42 rfl) rfl ?_
        refine ev_iadd (ea_at dt_X10_settle 43 rfl) ?_
        refine ev_iastore (ea_at dt_X10_settle 44 rfl) sh_78 (by decide) ?_
        refine ev_m (fun m8 => ?_)
        exact ev_vret (ea_at dt_X10_settle 45 rfl) rfl ⟨by decide, by decide⟩ (fun h => ⟨0, hR _ h⟩)
      · refine ev_aload (ea_at dt_X10_settle 18 rfl) rfl ?_
        refine ev_iload_n (ea_at dt_X10_settle 19 rfl) rfl ?_
        refine ev_iload_n (ea_at dt_X10_settle 20 rfl) rfl ?_
        refine ev_iload (ea_at dt_X10_settle 21 rfl) rfl ?_
        refine ev_rowsget (ea_at dt_X10_settle 22 rfl) flw_X10_81 ?_
        refine ev_iload_n (ea_at dt_X10_settle 23 rfl) rfl ?_
        refine ev_rowsld (ea_at dt_X10_settle 24 rfl) ?_
        refine ev_i (fun x9 => ?_)
        refine ev_imul (ea_at dt_X10_settle 25 rfl) ?_
        refine ev_aload_n (ea_at dt_X10_settle 26 rfl) rfl ?_
        refine ev_getR (ea_at dt_X10_settle 27 rfl) fl_X10_18 sh_76 rfl ?_
        refine ev_getR (ea_at dt_X10_settle 28 rfl) fl_X10_33 sh_73 rfl ?_
        refine ev_iload_n (ea_at dt_X10_settle 29 rfl) rfl ?_
        refine ev_clI (F1 := F_X2_isYard) (fun rY mY hY => ea_runV (As := [.int p2]) (ea_at dt_X10_settle 30 rfl) ml_X10_84 mv_X2_isYard (ok_X2_isYard G 2 p2 m is_Court_2 rY mY hY) sh_2 rfl rfl rfl (Nat.le_of_ble_eq_true rfl) rfl) rfl (fun r11 m10 => ?_)
        refine ev_clU (F1 := F_X4_land) (fun rY mY hY => ea_runV (As := [.int p2, .int p3, .int (p4 * x9), .int r11]) (ea_at dt_X10_settle 31 rfl) ml_X10_88 mv_X4_land (ok_X4_land G p5 p2 p3 (p4 * x9) r11 m10 hp5 rY mY hY) hp5.1 rfl rfl rfl (Nat.le_of_ble_eq_true rfl) rfl) rfl (fun r13 m12 => ?_)
        refine ev_goto (tgt := 80) (ea_at dt_X10_settle 32 rfl) rfl ?_
        exact ev_vret (ea_at dt_X10_settle 45 rfl) rfl ⟨by decide, by decide⟩ (fun h => ⟨0, hR _ h⟩)
    · exact ev_drop (l' := [none, none, none, some (.int p3), some (.int p4), some (.ref p5)]) ⟨Or.inl rfl, Or.inl rfl, Or.inl rfl, Or.inr rfl, Or.inr rfl, Or.inr rfl, trivial⟩ (jn_X10_settle_10 G p3 p4 p5 m hp5 hR)
def F_X10_spread : ea_F := (ea_rm 12 0 0, cX10_spread, RX10, none, 10, [], 0, 0)
def D_X10_spread : List (Nat × Instr × Nat) := [(0, .iload_n 2, 1), (1, .bipush 16, 2), (3, .idiv, 1), (4, .istore 5, 2), (6, .iload_n 2, 1), (7, .bipush 16, 2), (9, .irem, 1), (10, .istore 6, 2), (12, .aload_n 0, 1), (13, .getfield 18, 3), (16, .iload_n 1, 1), (17, .iload 5, 2), (19, .iload 6, 2), (21, .iload_n 3, 1), (22, .iconst 1, 1), (23, .isub, 1), (24, .invokevirtual 61, 3), (27, .aload_n 0, 1), (28, .getfield 18, 3), (31, .getfield 33, 3), (34, .getfield 65, 3), (37, .iload_n 1, 1), (38, .iaload, 1), (39, .ifCond .le 7, 3), (42, .iconst 1, 1), (43, .goto 4, 3), (46, .iconst 0, 1), (47, .istore 7, 2), (49, .iconst (-1), 1), (50, .istore 8, 2), (52, .iload 8, 2), (54, .iconst 1, 1), (55, .if_icmp .gt 58, 3), (58, .iload 6, 2), (60, .aload_n 0, 1), (61, .getfield 18, 3), (64, .getfield 68, 3), (67, .iadd, 1), (68, .iload 7, 2), (70, .ifCond .eq 8, 3), (73, .iload 8, 2), (75, .goto 4, 3), (78, .iconst 0, 1), (79, .iadd, 1), (80, .istore 9, 2), (82, .aload_n 0, 1), (83, .iload 5, 2), (85, .aload_n 0, 1), (86, .getfield 18, 3), (89, .getfield 71, 3), (92, .isub, 1), (93, .iload 9, 2), (95, .iload_n 3, 1), (96, .aload_n 0, 1), (97, .getfield 9, 3), (100, .iload_n 2, 1), (101, .iaload, 1), (102, .aload 4, 2), (104, .invokevirtual 74, 3), (107, .iinc 8 1, 3), (110, .goto (-58), 3), (113, .return_, 1)]
theorem dt_X10_spread : ∀ q ∈ D_X10_spread, decode cX10_spread q.1 = .ok q.2 := by decide +kernel
theorem mv_X10_spread : ea_MV yX10_spread (F_X10_spread) 4 := ⟨⟨List.mem_append_right _ (List.mem_of_getElem? (i := 11) (by decide +kernel)), List.mem_append_right _ (List.mem_of_getElem? (i := 528) (by decide +kernel)), ⟨by decide, by decide⟩, by decide +kernel⟩, List.mem_append_right _ (List.mem_of_getElem? (i := 527) (by decide +kernel)), List.mem_append_left _ (List.mem_of_getElem? (i := 2) (by decide +kernel))⟩
def f_X10_spread_j79 (p2 : Int32) (p3 : Int32) (p4 : Nat) (x6 : Int32) (x7 : Int32) (x8 : Int32) (x11 : Int32) (x12 : Int32) (x13 : Int32) (m14 : ea_M) : Option ((Int32 × ea_M) ⊕ (ea_M)) :=
  ea_bd (x12 + x13) fun x15 =>
  ea_bd (m14 73 4) fun x16 =>
  ea_g p2 208 (ea_bd (m14 77 (Int32.toNatClampNeg p2)) fun x17 =>
  ea_cl (f_X10_settle (x6 - x16) x15 p3 x17 p4 m14) fun r19 m18 =>
  some (.inl (x11 + 1, m18)))
def f_X10_spread_s52 (p2 : Int32) (p3 : Int32) (p4 : Nat) (x6 : Int32) (x7 : Int32) (x8 : Int32)  (s52 : Int32 × ea_M) : Option ((Int32 × ea_M) ⊕ (ea_M)) :=
  if 1 < s52.1 then
  some (.inr s52.2)
  else
  ea_bd (s52.2 73 5) fun x10 =>
  if x8 = 0 then
  f_X10_spread_j79 p2 p3 p4 x6 x7 x8 s52.1 (x7 + x10) 0 s52.2
  else
  f_X10_spread_j79 p2 p3 p4 x6 x7 x8 s52.1 (x7 + x10) s52.1 s52.2
def f_X10_spread_j47 (p2 : Int32) (p3 : Int32) (p4 : Nat) (x6 : Int32) (x7 : Int32) (x8 : Int32) (m9 : ea_M) : Option (Int32 × ea_M) :=
  (ea_loop (f_X10_spread_s52 p2 p3 p4 x6 x7 x8) ea_fuel ((-1), m9)).bind (fun x52s =>
  some (0, x52s))
def f_X10_spread (p1 : Int32) (p2 : Int32) (p3 : Int32) (p4 : Nat) (m : ea_M) : Option (Int32 × ea_M) :=
  ea_bd (p2 / 16) fun x1 =>
  ea_bd (p2 - p2 / 16 * 16) fun x2 =>
  ea_cl (f_X0_weigh p1 x1 x2 (p3 - 1) m) fun r4 m3 =>
  ea_g p1 6 (ea_bd (m3 5 (Int32.toNatClampNeg p1)) fun x5 =>
  if x5 ≤ 0 then
  f_X10_spread_j47 p2 p3 p4 x1 x2 0 m3
  else
  f_X10_spread_j47 p2 p3 p4 x1 x2 1 m3)
set_option maxHeartbeats 300000 in
theorem jn_X10_spread_79 (G : ea_G) {res : ea_O}  (p2 : Int32) (p3 : Int32) (p4 : Nat) (x6 : Int32) (x7 : Int32) (x8 : Int32) (x11 : Int32) (x12 : Int32) (x13 : Int32) (m14 : ea_M) (hp4 : ea_isFates p4) {Φ : ((Int32 × ea_M) ⊕ (ea_M)) → Prop} (hC : ∀ s52 : Int32 × ea_M, Φ (.inl s52) → ea_Ev G F_X10_spread res 52 [some (.ref 76), none, some (.int p2), some (.int p3), some (.ref p4), some (.int x6), some (.int x7), some (.int x8), some (.int s52.1), none] [] s52.2 0 0) (hX : ∀ x52s : ea_M, Φ (.inr x52s) → ea_Ev G F_X10_spread res 113 [none, none, none, none, none, none, none, none, none, none] [] x52s 0 0) : ea_E G F_X10_spread res 79 [some (.ref 76), none, some (.int p2), some (.int p3), some (.ref p4), some (.int x6), some (.int x7), some (.int x8), some (.int x11), none] [.int x13, .int x12] m14 0 0 (f_X10_spread_j79 p2 p3 p4 x6 x7 x8 x11 x12 x13 m14) Φ := by
  unfold f_X10_spread_j79
  refine ev_iadd (ea_at dt_X10_spread 43 rfl) ?_
  refine ev_i (fun x15 => ?_)
  refine ev_istore (ls' := [some (.ref 76), none, some (.int p2), some (.int p3), some (.ref p4), some (.int x6), some (.int x7), some (.int x8), some (.int x11), some (.int x15)]) (ea_at dt_X10_spread 44 rfl) (ea_lt rfl) rfl ?_
  refine ev_aload_n (ea_at dt_X10_spread 45 rfl) rfl ?_
  refine ev_iload (ea_at dt_X10_spread 46 rfl) rfl ?_
  refine ev_aload_n (ea_at dt_X10_spread 47 rfl) rfl ?_
  refine ev_getR (ea_at dt_X10_spread 48 rfl) fl_X10_18 sh_76 rfl ?_
  refine ev_getI (ea_at dt_X10_spread 49 rfl) fl_X10_71 sh_73 rfl ?_
  refine ev_i (fun x16 => ?_)
  refine ev_isub (ea_at dt_X10_spread 50 rfl) ?_
  refine ev_iload (ea_at dt_X10_spread 51 rfl) rfl ?_
  refine ev_iload_n (ea_at dt_X10_spread 52 rfl) rfl ?_
  refine ev_aload_n (ea_at dt_X10_spread 53 rfl) rfl ?_
  refine ev_getR (ea_at dt_X10_spread 54 rfl) fl_X10_9 sh_76 rfl ?_
  refine ev_iload_n (ea_at dt_X10_spread 55 rfl) rfl ?_
  refine ev_iaload (ea_at dt_X10_spread 56 rfl) sh_77 (by decide) ?_
  refine ev_i (fun x17 => ?_)
  refine ev_aload (ea_at dt_X10_spread 57 rfl) rfl ?_
  refine ev_clU (F1 := F_X10_settle) (fun rY mY hY => ea_runV (As := [.int (x6 - x16), .int x15, .int p3, .int x17, .ref p4]) (ea_at dt_X10_spread 58 rfl) ml_X10_74 mv_X10_settle (ok_X10_settle G (x6 - x16) x15 p3 x17 p4 m14 hp4 rY mY hY) sh_76 rfl rfl rfl (Nat.le_of_ble_eq_true rfl) rfl) rfl (fun r19 m18 => ?_)
  refine ev_iinc (ls' := [some (.ref 76), none, some (.int p2), some (.int p3), some (.ref p4), some (.int x6), some (.int x7), some (.int x8), some (.int (x11 + 1)), some (.int x15)]) (ea_at dt_X10_spread 59 rfl) rfl (congrArg (fun z => _ + z) ic_1) (ea_lt rfl) rfl ?_
  refine ev_goto (tgt := 52) (ea_at dt_X10_spread 60 rfl) rfl ?_
  exact ev_leaf (fun h => ea_drop (l' := [some (.ref 76), none, some (.int p2), some (.int p3), some (.ref p4), some (.int x6), some (.int x7), some (.int x8), some (.int (x11 + 1)), none]) ⟨Or.inr rfl, Or.inl rfl, Or.inr rfl, Or.inr rfl, Or.inr rfl, Or.inr rfl, Or.inr rfl, Or.inr rfl, Or.inr rfl, Or.inl rfl, trivial⟩ (hC (x11 + 1, m18) h))
set_option maxHeartbeats 300000 in
theorem lp_X10_spread_52 (G : ea_G) {res : ea_O}  (p2 : Int32) (p3 : Int32) (p4 : Nat) (x6 : Int32) (x7 : Int32) (x8 : Int32) (hp4 : ea_isFates p4) {Ψ : ea_M → Prop} (hX : ∀ x52s : ea_M, Ψ x52s → ea_Ev G F_X10_spread res 113 [none, none, none, none, none, none, none, none, none, none] [] x52s 0 0) : ∀ (f : Nat) (s52 : Int32 × ea_M), ea_E G F_X10_spread res 52 [some (.ref 76), none, some (.int p2), some (.int p3), some (.ref p4), some (.int x6), some (.int x7), some (.int x8), some (.int s52.1), none] [] s52.2 0 0 (ea_loop (f_X10_spread_s52 p2 p3 p4 x6 x7 x8) f s52) Ψ := by
  refine ev_loop (G := G) (F := F_X10_spread) (res := res) (pc := 52) (st := []) (k := 0) (n := 0) (step := (f_X10_spread_s52 p2 p3 p4 x6 x7 x8)) (Ψ := Ψ) (fun (s52 : Int32 × ea_M) => [some (.ref 76), none, some (.int p2), some (.int p3), some (.ref p4), some (.int x6), some (.int x7), some (.int x8), some (.int s52.1), none]) (fun (s52 : Int32 × ea_M) => s52.2) (fun s52 => ?_)
  have hC : ∀ s52 : Int32 × ea_M, (Sum.elim (fun s52 : Int32 × ea_M => ea_Ev G F_X10_spread res 52 [some (.ref 76), none, some (.int p2), some (.int p3), some (.ref p4), some (.int x6), some (.int x7), some (.int x8), some (.int s52.1), none] [] s52.2 0 0) Ψ) (.inl s52) → ea_Ev G F_X10_spread res 52 [some (.ref 76), none, some (.int p2), some (.int p3), some (.ref p4), some (.int x6), some (.int x7), some (.int x8), some (.int s52.1), none] [] s52.2 0 0 := fun _ h => h
  have hX : ∀ x52s : ea_M, (Sum.elim (fun s52 : Int32 × ea_M => ea_Ev G F_X10_spread res 52 [some (.ref 76), none, some (.int p2), some (.int p3), some (.ref p4), some (.int x6), some (.int x7), some (.int x8), some (.int s52.1), none] [] s52.2 0 0) Ψ) (.inr x52s) → ea_Ev G F_X10_spread res 113 [none, none, none, none, none, none, none, none, none, none] [] x52s 0 0 := hX
  unfold f_X10_spread_s52
  refine ev_iload (ea_at dt_X10_spread 30 rfl) rfl ?_
  refine ev_iconst (ea_at dt_X10_spread 31 rfl) ic_1 ?_
  refine ev_icmp_gt (tgt := 113) (ea_at dt_X10_spread 32 rfl) rfl (fun _ => ?_) (fun _ => ?_)
  · exact ev_leaf (fun h => ea_drop (l' := [none, none, none, none, none, none, none, none, none, none]) ⟨Or.inl rfl, Or.inl rfl, Or.inl rfl, Or.inl rfl, Or.inl rfl, Or.inl rfl, Or.inl rfl, Or.inl rfl, Or.inl rfl, Or.inl rfl, trivial⟩ (hX s52.2 h))
  · refine ev_iload (ea_at dt_X10_spread 33 rfl) rfl ?_
    refine ev_aload_n (ea_at dt_X10_spread 34 rfl) rfl ?_
    refine ev_getR (ea_at dt_X10_spread 35 rfl) fl_X10_18 sh_76 rfl ?_
    refine ev_getI (ea_at dt_X10_spread 36 rfl) fl_X10_68 sh_73 rfl ?_
    refine ev_i (fun x10 => ?_)
    refine ev_iadd (ea_at dt_X10_spread 37 rfl) ?_
    refine ev_iload (ea_at dt_X10_spread 38 rfl) rfl ?_
    refine ev_if_eq (tgt := 78) (ea_at dt_X10_spread 39 rfl) rfl (fun _ => ?_) (fun _ => ?_)
    · refine ev_iconst (ea_at dt_X10_spread 42 rfl) ic_0 ?_
      exact ev_drop (l' := [some (.ref 76), none, some (.int p2), some (.int p3), some (.ref p4), some (.int x6), some (.int x7), some (.int x8), some (.int s52.1), none]) ⟨Or.inr rfl, Or.inl rfl, Or.inr rfl, Or.inr rfl, Or.inr rfl, Or.inr rfl, Or.inr rfl, Or.inr rfl, Or.inr rfl, Or.inl rfl, trivial⟩ (jn_X10_spread_79 G p2 p3 p4 x6 x7 x8 s52.1 (x7 + x10) 0 s52.2 hp4 hC hX)
    · refine ev_iload (ea_at dt_X10_spread 40 rfl) rfl ?_
      refine ev_goto (tgt := 79) (ea_at dt_X10_spread 41 rfl) rfl ?_
      exact ev_drop (l' := [some (.ref 76), none, some (.int p2), some (.int p3), some (.ref p4), some (.int x6), some (.int x7), some (.int x8), some (.int s52.1), none]) ⟨Or.inr rfl, Or.inl rfl, Or.inr rfl, Or.inr rfl, Or.inr rfl, Or.inr rfl, Or.inr rfl, Or.inr rfl, Or.inr rfl, Or.inl rfl, trivial⟩ (jn_X10_spread_79 G p2 p3 p4 x6 x7 x8 s52.1 (x7 + x10) s52.1 s52.2 hp4 hC hX)
set_option maxHeartbeats 300000 in
theorem jn_X10_spread_47 (G : ea_G) {res : ea_O}  (p2 : Int32) (p3 : Int32) (p4 : Nat) (x6 : Int32) (x7 : Int32) (x8 : Int32) (m9 : ea_M) (hp4 : ea_isFates p4) {Φ : (Int32 × ea_M) → Prop} (hR : ∀ t : Int32 × ea_M, Φ t → res = (0, t)) : ea_E G F_X10_spread res 47 [some (.ref 76), none, some (.int p2), some (.int p3), some (.ref p4), some (.int x6), some (.int x7), none, none, none] [.int x8] m9 0 0 (f_X10_spread_j47 p2 p3 p4 x6 x7 x8 m9) Φ := by
  unfold f_X10_spread_j47
  refine ev_istore (ls' := [some (.ref 76), none, some (.int p2), some (.int p3), some (.ref p4), some (.int x6), some (.int x7), some (.int x8), none, none]) (ea_at dt_X10_spread 27 rfl) (ea_lt rfl) rfl ?_
  refine ev_iconst (ea_at dt_X10_spread 28 rfl) ic_m1 ?_
  refine ev_istore (ls' := [some (.ref 76), none, some (.int p2), some (.int p3), some (.ref p4), some (.int x6), some (.int x7), some (.int x8), some (.int (-1)), none]) (ea_at dt_X10_spread 29 rfl) (ea_lt rfl) rfl ?_
  refine ev_drop (l' := [some (.ref 76), none, some (.int p2), some (.int p3), some (.ref p4), some (.int x6), some (.int x7), some (.int x8), some (.int (-1)), none]) ⟨Or.inr rfl, Or.inl rfl, Or.inr rfl, Or.inr rfl, Or.inr rfl, Or.inr rfl, Or.inr rfl, Or.inr rfl, Or.inr rfl, Or.inl rfl, trivial⟩ ?_
  refine ev_bind (lp_X10_spread_52 G p2 p3 p4 x6 x7 x8 hp4  (fun x52s h => ?_) ea_fuel ((-1), m9))
  obtain ⟨t1, e1, q1⟩ := h
  refine (?_ : ea_E G F_X10_spread res 113 [none, none, none, none, none, none, none, none, none, none] [] x52s 0 0 _ Φ) t1 e1 q1
  exact ev_vret (ea_at dt_X10_spread 61 rfl) rfl ⟨by decide, by decide⟩ (fun h => ⟨0, hR _ h⟩)
set_option maxHeartbeats 300000 in
theorem ok_X10_spread (G : ea_G) (p1 : Int32) (p2 : Int32) (p3 : Int32) (p4 : Nat) (m : ea_M) (hp4 : ea_isFates p4) (rZ : Int32) (mZ : ea_M) (hZ : f_X10_spread p1 p2 p3 p4 m = some (rZ, mZ)) : ea_Met G yX10_spread F_X10_spread [.ref 76, .int p1, .int p2, .int p3, .ref p4] m (0, rZ, mZ) := by
  refine ea_met (F := F_X10_spread) (by decide +kernel) rfl rfl (Nat.le_of_ble_eq_true rfl) (by simp only [List.mem_cons, List.not_mem_nil, or_false]; intro v hv; rcases hv with rfl | rfl | rfl | rfl | rfl <;> rfl) ((?_ : ea_E G F_X10_spread (0, rZ, mZ) 0 [some (.ref 76), some (.int p1), some (.int p2), some (.int p3), some (.ref p4), none, none, none, none, none] [] m 0 0 (f_X10_spread p1 p2 p3 p4 m) (fun t => t = (rZ, mZ))) (rZ, mZ) hZ rfl)
  have hR : ∀ t : Int32 × ea_M, t = (rZ, mZ) → ((0, rZ, mZ) : ea_O) = (0, t) := fun t h => by rw [h]
  unfold f_X10_spread
  refine ev_iload_n (ea_at dt_X10_spread 0 rfl) rfl ?_
  refine ev_bipush (ea_at dt_X10_spread 1 rfl) bp_16 ?_
  refine ev_idiv (ea_at dt_X10_spread 2 rfl) (by decide) ?_
  refine ev_i (fun x1 => ?_)
  refine ev_istore (ls' := [some (.ref 76), some (.int p1), some (.int p2), some (.int p3), some (.ref p4), some (.int x1), none, none, none, none]) (ea_at dt_X10_spread 3 rfl) (ea_lt rfl) rfl ?_
  refine ev_iload_n (ea_at dt_X10_spread 4 rfl) rfl ?_
  refine ev_bipush (ea_at dt_X10_spread 5 rfl) bp_16 ?_
  refine ev_irem (ea_at dt_X10_spread 6 rfl) (by decide) ?_
  refine ev_i (fun x2 => ?_)
  refine ev_istore (ls' := [some (.ref 76), some (.int p1), some (.int p2), some (.int p3), some (.ref p4), some (.int x1), some (.int x2), none, none, none]) (ea_at dt_X10_spread 7 rfl) (ea_lt rfl) rfl ?_
  refine ev_aload_n (ea_at dt_X10_spread 8 rfl) rfl ?_
  refine ev_getR (ea_at dt_X10_spread 9 rfl) fl_X10_18 sh_76 rfl ?_
  refine ev_iload_n (ea_at dt_X10_spread 10 rfl) rfl ?_
  refine ev_iload (ea_at dt_X10_spread 11 rfl) rfl ?_
  refine ev_iload (ea_at dt_X10_spread 12 rfl) rfl ?_
  refine ev_iload_n (ea_at dt_X10_spread 13 rfl) rfl ?_
  refine ev_iconst (ea_at dt_X10_spread 14 rfl) ic_1 ?_
  refine ev_isub (ea_at dt_X10_spread 15 rfl) ?_
  refine ev_clU (F1 := F_X0_weigh) (fun rY mY hY => ea_runV (As := [.int p1, .int x1, .int x2, .int (p3 - 1)]) (ea_at dt_X10_spread 16 rfl) ml_X10_61 mv_X0_weigh (ok_X0_weigh G p1 x1 x2 (p3 - 1) m  rY mY hY) sh_73 rfl rfl rfl (Nat.le_of_ble_eq_true rfl) rfl) rfl (fun r4 m3 => ?_)
  refine ev_aload_n (ea_at dt_X10_spread 17 rfl) rfl ?_
  refine ev_getR (ea_at dt_X10_spread 18 rfl) fl_X10_18 sh_76 rfl ?_
  refine ev_getR (ea_at dt_X10_spread 19 rfl) fl_X10_33 sh_73 rfl ?_
  refine ev_getR (ea_at dt_X10_spread 20 rfl) fl_X10_65 sh_2 rfl ?_
  refine ev_iload_n (ea_at dt_X10_spread 21 rfl) rfl ?_
  refine ev_iaload (ea_at dt_X10_spread 22 rfl) sh_5 (by decide) ?_
  refine ev_i (fun x5 => ?_)
  refine ev_if_le (tgt := 46) (ea_at dt_X10_spread 23 rfl) rfl (fun _ => ?_) (fun _ => ?_)
  · refine ev_iconst (ea_at dt_X10_spread 26 rfl) ic_0 ?_
    exact ev_drop (l' := [some (.ref 76), none, some (.int p2), some (.int p3), some (.ref p4), some (.int x1), some (.int x2), none, none, none]) ⟨Or.inr rfl, Or.inl rfl, Or.inr rfl, Or.inr rfl, Or.inr rfl, Or.inr rfl, Or.inr rfl, Or.inl rfl, Or.inl rfl, Or.inl rfl, trivial⟩ (jn_X10_spread_47 G p2 p3 p4 x1 x2 0 m3 hp4 hR)
  · refine ev_iconst (ea_at dt_X10_spread 24 rfl) ic_1 ?_
    refine ev_goto (tgt := 47) (ea_at dt_X10_spread 25 rfl) rfl ?_
    exact ev_drop (l' := [some (.ref 76), none, some (.int p2), some (.int p3), some (.ref p4), some (.int x1), some (.int x2), none, none, none]) ⟨Or.inr rfl, Or.inl rfl, Or.inr rfl, Or.inr rfl, Or.inr rfl, Or.inr rfl, Or.inr rfl, Or.inl rfl, Or.inl rfl, Or.inl rfl, trivial⟩ (jn_X10_spread_47 G p2 p3 p4 x1 x2 1 m3 hp4 hR)
def F_X10_reckon : ea_F := (ea_rm 13 0 0, cX10_reckon, RX10, none, 5, [], 0, 0)
def D_X10_reckon : List (Nat × Instr × Nat) := [(0, .aload_n 2, 1), (1, .invokevirtual 22, 3), (4, .aload_n 0, 1), (5, .getfield 9, 3), (8, .iconst 0, 1), (9, .invokestatic 27, 3), (12, .aload_n 0, 1), (13, .getfield 9, 3), (16, .aload_n 0, 1), (17, .getfield 18, 3), (20, .getfield 33, 3), (23, .getfield 39, 3), (26, .bipush 16, 2), (28, .imul, 1), (29, .aload_n 0, 1), (30, .getfield 18, 3), (33, .getfield 33, 3), (36, .getfield 45, 3), (39, .iadd, 1), (40, .iconst 1, 1), (41, .iastore, 1), (42, .iconst 1, 1), (43, .istore_n 3, 1), (44, .iload_n 3, 1), (45, .bipush 8, 2), (47, .if_icmp .gt 74, 3), (50, .aload_n 0, 1), (51, .getfield 15, 3), (54, .iconst 0, 1), (55, .invokestatic 27, 3), (58, .bipush 16, 2), (60, .istore 4, 2), (62, .iload 4, 2), (64, .aload_n 0, 1), (65, .getfield 9, 3), (68, .arraylength, 1), (69, .if_icmp .ge 28, 3), (72, .aload_n 0, 1), (73, .getfield 9, 3), (76, .iload 4, 2), (78, .iaload, 1), (79, .ifCond .le 12, 3), (82, .aload_n 0, 1), (83, .iload_n 1, 1), (84, .iload 4, 2), (86, .iload_n 3, 1), (87, .aload_n 2, 1), (88, .invokevirtual 48, 3), (91, .iinc 4 1, 3), (94, .goto (-32), 3), (97, .aload_n 0, 1), (98, .getfield 15, 3), (101, .iconst 0, 1), (102, .aload_n 0, 1), (103, .getfield 9, 3), (106, .iconst 0, 1), (107, .aload_n 0, 1), (108, .getfield 9, 3), (111, .arraylength, 1), (112, .invokestatic 52, 3), (115, .iinc 3 1, 3), (118, .goto (-74), 3), (121, .bipush 16, 2), (123, .istore_n 3, 1), (124, .iload_n 3, 1), (125, .aload_n 0, 1), (126, .getfield 9, 3), (129, .arraylength, 1), (130, .if_icmp .ge 24, 3), (133, .aload_n 2, 1), (134, .dup, 1), (135, .getfield 58, 3), (138, .aload_n 0, 1), (139, .getfield 9, 3), (142, .iload_n 3, 1), (143, .iaload, 1), (144, .iadd, 1), (145, .putfield 58, 3), (148, .iinc 3 1, 3), (151, .goto (-27), 3), (154, .return_, 1)]
theorem dt_X10_reckon : ∀ q ∈ D_X10_reckon, decode cX10_reckon q.1 = .ok q.2 := by decide +kernel
theorem mv_X10_reckon : ea_MV yX10_reckon (F_X10_reckon) 2 := ⟨⟨List.mem_append_right _ (List.mem_of_getElem? (i := 11) (by decide +kernel)), List.mem_append_right _ (List.mem_of_getElem? (i := 516) (by decide +kernel)), ⟨by decide, by decide⟩, by decide +kernel⟩, List.mem_append_right _ (List.mem_of_getElem? (i := 514) (by decide +kernel)), List.mem_append_right _ (List.mem_of_getElem? (i := 515) (by decide +kernel))⟩
def f_X10_reckon_j91 (p1 : Int32) (p2 : Nat) (s44 : Int32 × ea_M) (x12 : Int32) (m13 : ea_M) : Option ((Int32 × ea_M) ⊕ (ea_M)) :=
  some (.inl (x12 + 1, m13))
def f_X10_reckon_s62 (p1 : Int32) (p2 : Nat) (s44 : Int32 × ea_M)  (s62 : Int32 × ea_M) : Option ((Int32 × ea_M) ⊕ (ea_M)) :=
  if 208 ≤ s62.1 then
  some (.inr s62.2)
  else
  ea_g s62.1 208 (ea_bd (s62.2 77 (Int32.toNatClampNeg s62.1)) fun x11 =>
  if x11 ≤ 0 then
  f_X10_reckon_j91 p1 p2 s44 s62.1 s62.2
  else
  ea_cl (f_X10_spread p1 s62.1 s44.1 p2 s62.2) fun r15 m14 =>
  f_X10_reckon_j91 p1 p2 s44 s62.1 m14)
def f_X10_reckon_s44 (p1 : Int32) (p2 : Nat)  (s44 : Int32 × ea_M) : Option ((Int32 × ea_M) ⊕ (ea_M)) :=
  if 8 < s44.1 then
  some (.inr s44.2)
  else
  ea_cl (f_J7_fill_53178 78 208 0 s44.2) fun r10 m9 =>
  (ea_loop (f_X10_reckon_s62 p1 p2 s44) ea_fuel (16, m9)).bind (fun x62s =>
  ea_bd (ea_up x62s 77 (va_cpy (x62s 78) (x62s 77) 0 0 208)) fun m16 =>
  some (.inl (s44.1 + 1, m16)))
def f_X10_reckon_s124 (p2 : Nat)  (s124 : Int32 × ea_M) : Option ((Int32 × ea_M) ⊕ (ea_M)) :=
  if 208 ≤ s124.1 then
  some (.inr s124.2)
  else
  ea_bd (s124.2 p2 1) fun x17 =>
  ea_g s124.1 208 (ea_bd (s124.2 77 (Int32.toNatClampNeg s124.1)) fun x18 =>
  ea_bd (ea_st s124.2 p2 1 (x17 + x18)) fun m19 =>
  some (.inl (s124.1 + 1, m19)))
def f_X10_reckon (p1 : Int32) (p2 : Nat) (m : ea_M) : Option (Int32 × ea_M) :=
  ea_cl (f_X4_clear p2 m) fun r2 m1 =>
  ea_cl (f_J7_fill_53178 77 208 0 m1) fun r4 m3 =>
  ea_bd (m3 2 1) fun x5 =>
  ea_bd (m3 2 0) fun x6 =>
  ea_bd ((x5 * 16) + x6) fun x7 =>
  ea_g x7 208 (ea_bd (ea_st m3 77 (Int32.toNatClampNeg x7) 1) fun m8 =>
  (ea_loop (f_X10_reckon_s44 p1 p2) ea_fuel (1, m8)).bind (fun x44s =>
  (ea_loop (f_X10_reckon_s124 p2) ea_fuel (16, x44s)).bind (fun x124s =>
  some (0, x124s))))
set_option maxHeartbeats 300000 in
theorem jn_X10_reckon_91 (G : ea_G) {res : ea_O}  (p1 : Int32) (p2 : Nat) (s44 : Int32 × ea_M) (x12 : Int32) (m13 : ea_M) (hp2 : ea_isFates p2) {Φ : ((Int32 × ea_M) ⊕ (ea_M)) → Prop} (hC : ∀ s62 : Int32 × ea_M, Φ (.inl s62) → ea_Ev G F_X10_reckon res 62 [some (.ref 76), some (.int p1), some (.ref p2), some (.int s44.1), some (.int s62.1)] [] s62.2 0 0) (hX : ∀ x62s : ea_M, Φ (.inr x62s) → ea_Ev G F_X10_reckon res 97 [some (.ref 76), some (.int p1), some (.ref p2), some (.int s44.1), none] [] x62s 0 0) : ea_E G F_X10_reckon res 91 [some (.ref 76), some (.int p1), some (.ref p2), some (.int s44.1), some (.int x12)] [] m13 0 0 (f_X10_reckon_j91 p1 p2 s44 x12 m13) Φ := by
  unfold f_X10_reckon_j91
  refine ev_iinc (ls' := [some (.ref 76), some (.int p1), some (.ref p2), some (.int s44.1), some (.int (x12 + 1))]) (ea_at dt_X10_reckon 48 rfl) rfl (congrArg (fun z => _ + z) ic_1) (ea_lt rfl) rfl ?_
  refine ev_goto (tgt := 62) (ea_at dt_X10_reckon 49 rfl) rfl ?_
  exact ev_leaf (fun h => ea_drop (l' := [some (.ref 76), some (.int p1), some (.ref p2), some (.int s44.1), some (.int (x12 + 1))]) ⟨Or.inr rfl, Or.inr rfl, Or.inr rfl, Or.inr rfl, Or.inr rfl, trivial⟩ (hC (x12 + 1, m13) h))
set_option maxHeartbeats 300000 in
theorem lp_X10_reckon_62 (G : ea_G) {res : ea_O}  (p1 : Int32) (p2 : Nat) (s44 : Int32 × ea_M) (hp2 : ea_isFates p2) {Ψ : ea_M → Prop} (hX : ∀ x62s : ea_M, Ψ x62s → ea_Ev G F_X10_reckon res 97 [some (.ref 76), some (.int p1), some (.ref p2), some (.int s44.1), none] [] x62s 0 0) : ∀ (f : Nat) (s62 : Int32 × ea_M), ea_E G F_X10_reckon res 62 [some (.ref 76), some (.int p1), some (.ref p2), some (.int s44.1), some (.int s62.1)] [] s62.2 0 0 (ea_loop (f_X10_reckon_s62 p1 p2 s44) f s62) Ψ := by
  refine ev_loop (G := G) (F := F_X10_reckon) (res := res) (pc := 62) (st := []) (k := 0) (n := 0) (step := (f_X10_reckon_s62 p1 p2 s44)) (Ψ := Ψ) (fun (s62 : Int32 × ea_M) => [some (.ref 76), some (.int p1), some (.ref p2), some (.int s44.1), some (.int s62.1)]) (fun (s62 : Int32 × ea_M) => s62.2) (fun s62 => ?_)
  have hC : ∀ s62 : Int32 × ea_M, (Sum.elim (fun s62 : Int32 × ea_M => ea_Ev G F_X10_reckon res 62 [some (.ref 76), some (.int p1), some (.ref p2), some (.int s44.1), some (.int s62.1)] [] s62.2 0 0) Ψ) (.inl s62) → ea_Ev G F_X10_reckon res 62 [some (.ref 76), some (.int p1), some (.ref p2), some (.int s44.1), some (.int s62.1)] [] s62.2 0 0 := fun _ h => h
  have hX : ∀ x62s : ea_M, (Sum.elim (fun s62 : Int32 × ea_M => ea_Ev G F_X10_reckon res 62 [some (.ref 76), some (.int p1), some (.ref p2), some (.int s44.1), some (.int s62.1)] [] s62.2 0 0) Ψ) (.inr x62s) → ea_Ev G F_X10_reckon res 97 [some (.ref 76), some (.int p1), some (.ref p2), some (.int s44.1), none] [] x62s 0 0 := hX
  unfold f_X10_reckon_s62
  refine ev_iload (ea_at dt_X10_reckon 32 rfl) rfl ?_
  refine ev_aload_n (ea_at dt_X10_reckon 33 rfl) rfl ?_
  refine ev_getR (ea_at dt_X10_reckon 34 rfl) fl_X10_9 sh_76 rfl ?_
  refine ev_alen (ea_at dt_X10_reckon 35 rfl) sh_77 (by decide) (by decide) ol_208 ?_
  refine ev_icmp_ge (tgt := 97) (ea_at dt_X10_reckon 36 rfl) rfl (fun _ => ?_) (fun _ => ?_)
  · exact ev_leaf (fun h => ea_drop (l' := [some (.ref 76), some (.int p1), some (.ref p2), some (.int s44.1), none]) ⟨Or.inr rfl, Or.inr rfl, Or.inr rfl, Or.inr rfl, Or.inl rfl, trivial⟩ (hX s62.2 h))
  · refine ev_aload_n (ea_at dt_X10_reckon 37 rfl) rfl ?_
    refine ev_getR (ea_at dt_X10_reckon 38 rfl) fl_X10_9 sh_76 rfl ?_
    refine ev_iload (ea_at dt_X10_reckon 39 rfl) rfl ?_
    refine ev_iaload (ea_at dt_X10_reckon 40 rfl) sh_77 (by decide) ?_
    refine ev_i (fun x11 => ?_)
    refine ev_if_le (tgt := 91) (ea_at dt_X10_reckon 41 rfl) rfl (fun _ => ?_) (fun _ => ?_)
    · exact ev_drop (l' := [some (.ref 76), some (.int p1), some (.ref p2), some (.int s44.1), some (.int s62.1)]) ⟨Or.inr rfl, Or.inr rfl, Or.inr rfl, Or.inr rfl, Or.inr rfl, trivial⟩ (jn_X10_reckon_91 G p1 p2 s44 s62.1 s62.2 hp2 hC hX)
    · refine ev_aload_n (ea_at dt_X10_reckon 42 rfl) rfl ?_
      refine ev_iload_n (ea_at dt_X10_reckon 43 rfl) rfl ?_
      refine ev_iload (ea_at dt_X10_reckon 44 rfl) rfl ?_
      refine ev_iload_n (ea_at dt_X10_reckon 45 rfl) rfl ?_
      refine ev_aload_n (ea_at dt_X10_reckon 46 rfl) rfl ?_
      refine ev_clU (F1 := F_X10_spread) (fun rY mY hY => ea_runV (As := [.int p1, .int s62.1, .int s44.1, .ref p2]) (ea_at dt_X10_reckon 47 rfl) ml_X10_48 mv_X10_spread (ok_X10_spread G p1 s62.1 s44.1 p2 s62.2 hp2 rY mY hY) sh_76 rfl rfl rfl (Nat.le_of_ble_eq_true rfl) rfl) rfl (fun r15 m14 => ?_)
      exact ev_drop (l' := [some (.ref 76), some (.int p1), some (.ref p2), some (.int s44.1), some (.int s62.1)]) ⟨Or.inr rfl, Or.inr rfl, Or.inr rfl, Or.inr rfl, Or.inr rfl, trivial⟩ (jn_X10_reckon_91 G p1 p2 s44 s62.1 m14 hp2 hC hX)
set_option maxHeartbeats 300000 in
theorem lp_X10_reckon_44 (G : ea_G) {res : ea_O}  (p1 : Int32) (p2 : Nat) (hp2 : ea_isFates p2) {Ψ : ea_M → Prop} (hX : ∀ x44s : ea_M, Ψ x44s → ea_Ev G F_X10_reckon res 121 [some (.ref 76), none, some (.ref p2), none, none] [] x44s 0 0) : ∀ (f : Nat) (s44 : Int32 × ea_M), ea_E G F_X10_reckon res 44 [some (.ref 76), some (.int p1), some (.ref p2), some (.int s44.1), none] [] s44.2 0 0 (ea_loop (f_X10_reckon_s44 p1 p2) f s44) Ψ := by
  refine ev_loop (G := G) (F := F_X10_reckon) (res := res) (pc := 44) (st := []) (k := 0) (n := 0) (step := (f_X10_reckon_s44 p1 p2)) (Ψ := Ψ) (fun (s44 : Int32 × ea_M) => [some (.ref 76), some (.int p1), some (.ref p2), some (.int s44.1), none]) (fun (s44 : Int32 × ea_M) => s44.2) (fun s44 => ?_)
  have hC : ∀ s44 : Int32 × ea_M, (Sum.elim (fun s44 : Int32 × ea_M => ea_Ev G F_X10_reckon res 44 [some (.ref 76), some (.int p1), some (.ref p2), some (.int s44.1), none] [] s44.2 0 0) Ψ) (.inl s44) → ea_Ev G F_X10_reckon res 44 [some (.ref 76), some (.int p1), some (.ref p2), some (.int s44.1), none] [] s44.2 0 0 := fun _ h => h
  have hX : ∀ x44s : ea_M, (Sum.elim (fun s44 : Int32 × ea_M => ea_Ev G F_X10_reckon res 44 [some (.ref 76), some (.int p1), some (.ref p2), some (.int s44.1), none] [] s44.2 0 0) Ψ) (.inr x44s) → ea_Ev G F_X10_reckon res 121 [some (.ref 76), none, some (.ref p2), none, none] [] x44s 0 0 := hX
  unfold f_X10_reckon_s44
  refine ev_iload_n (ea_at dt_X10_reckon 23 rfl) rfl ?_
  refine ev_bipush (ea_at dt_X10_reckon 24 rfl) bp_8 ?_
  refine ev_icmp_gt (tgt := 121) (ea_at dt_X10_reckon 25 rfl) rfl (fun _ => ?_) (fun _ => ?_)
  · exact ev_leaf (fun h => ea_drop (l' := [some (.ref 76), none, some (.ref p2), none, none]) ⟨Or.inr rfl, Or.inl rfl, Or.inr rfl, Or.inl rfl, Or.inl rfl, trivial⟩ (hX s44.2 h))
  · refine ev_aload_n (ea_at dt_X10_reckon 26 rfl) rfl ?_
    refine ev_getR (ea_at dt_X10_reckon 27 rfl) fl_X10_15 sh_76 rfl ?_
    refine ev_iconst (ea_at dt_X10_reckon 28 rfl) ic_0 ?_
    refine ev_clU (F1 := F_J7_fill_53178) (fun rY mY hY => ea_runS (As := [.ref 78, .int 0]) (ea_at dt_X10_reckon 29 rfl) ml_X10_27 mv_J7_fill_53178 (ok_J7_fill_53178 G 78 208 0 s44.2 sh_78 (by decide) rY mY hY) rfl rfl (Nat.le_of_ble_eq_true rfl) rfl) rfl (fun r10 m9 => ?_)
    refine ev_bipush (ea_at dt_X10_reckon 30 rfl) bp_16 ?_
    refine ev_istore (ls' := [some (.ref 76), some (.int p1), some (.ref p2), some (.int s44.1), some (.int 16)]) (ea_at dt_X10_reckon 31 rfl) (ea_lt rfl) rfl ?_
    refine ev_drop (l' := [some (.ref 76), some (.int p1), some (.ref p2), some (.int s44.1), some (.int 16)]) ⟨Or.inr rfl, Or.inr rfl, Or.inr rfl, Or.inr rfl, Or.inr rfl, trivial⟩ ?_
    refine ev_bind (lp_X10_reckon_62 G p1 p2 s44 hp2  (fun x62s h => ?_) ea_fuel (16, m9))
    obtain ⟨t1, e1, q1⟩ := h
    refine (?_ : ea_E G F_X10_reckon res 97 [some (.ref 76), some (.int p1), some (.ref p2), some (.int s44.1), none] [] x62s 0 0 _ (Sum.elim (fun s44 : Int32 × ea_M => ea_Ev G F_X10_reckon res 44 [some (.ref 76), some (.int p1), some (.ref p2), some (.int s44.1), none] [] s44.2 0 0) Ψ)) t1 e1 q1
    refine ev_aload_n (ea_at dt_X10_reckon 50 rfl) rfl ?_
    refine ev_getR (ea_at dt_X10_reckon 51 rfl) fl_X10_15 sh_76 rfl ?_
    refine ev_iconst (ea_at dt_X10_reckon 52 rfl) ic_0 ?_
    refine ev_aload_n (ea_at dt_X10_reckon 53 rfl) rfl ?_
    refine ev_getR (ea_at dt_X10_reckon 54 rfl) fl_X10_9 sh_76 rfl ?_
    refine ev_iconst (ea_at dt_X10_reckon 55 rfl) ic_0 ?_
    refine ev_aload_n (ea_at dt_X10_reckon 56 rfl) rfl ?_
    refine ev_getR (ea_at dt_X10_reckon 57 rfl) fl_X10_9 sh_76 rfl ?_
    refine ev_alen (ea_at dt_X10_reckon 58 rfl) sh_77 (by decide) (by decide) ol_208 ?_
    refine ev_copyC (sp' := 0) (dp' := 0) (len' := 208) (ea_at dt_X10_reckon 59 rfl) ml_X10_52 ea_copyW sh_78 sh_77 (by decide) (by decide) (by decide) (by decide) (by decide) ⟨by decide, by decide⟩ ⟨by decide, by decide⟩ ?_
    refine ev_m (fun m16 => ?_)
    refine ev_iinc (ls' := [some (.ref 76), some (.int p1), some (.ref p2), some (.int (s44.1 + 1)), none]) (ea_at dt_X10_reckon 60 rfl) rfl (congrArg (fun z => _ + z) ic_1) (ea_lt rfl) rfl ?_
    refine ev_goto (tgt := 44) (ea_at dt_X10_reckon 61 rfl) rfl ?_
    exact ev_leaf (fun h => ea_drop (l' := [some (.ref 76), some (.int p1), some (.ref p2), some (.int (s44.1 + 1)), none]) ⟨Or.inr rfl, Or.inr rfl, Or.inr rfl, Or.inr rfl, Or.inl rfl, trivial⟩ (hC (s44.1 + 1, m16) h))
set_option maxHeartbeats 300000 in
theorem lp_X10_reckon_124 (G : ea_G) {res : ea_O}  (p2 : Nat) (hp2 : ea_isFates p2) {Ψ : ea_M → Prop} (hX : ∀ x124s : ea_M, Ψ x124s → ea_Ev G F_X10_reckon res 154 [none, none, none, none, none] [] x124s 0 0) : ∀ (f : Nat) (s124 : Int32 × ea_M), ea_E G F_X10_reckon res 124 [some (.ref 76), none, some (.ref p2), some (.int s124.1), none] [] s124.2 0 0 (ea_loop (f_X10_reckon_s124 p2) f s124) Ψ := by
  refine ev_loop (G := G) (F := F_X10_reckon) (res := res) (pc := 124) (st := []) (k := 0) (n := 0) (step := (f_X10_reckon_s124 p2)) (Ψ := Ψ) (fun (s124 : Int32 × ea_M) => [some (.ref 76), none, some (.ref p2), some (.int s124.1), none]) (fun (s124 : Int32 × ea_M) => s124.2) (fun s124 => ?_)
  have hC : ∀ s124 : Int32 × ea_M, (Sum.elim (fun s124 : Int32 × ea_M => ea_Ev G F_X10_reckon res 124 [some (.ref 76), none, some (.ref p2), some (.int s124.1), none] [] s124.2 0 0) Ψ) (.inl s124) → ea_Ev G F_X10_reckon res 124 [some (.ref 76), none, some (.ref p2), some (.int s124.1), none] [] s124.2 0 0 := fun _ h => h
  have hX : ∀ x124s : ea_M, (Sum.elim (fun s124 : Int32 × ea_M => ea_Ev G F_X10_reckon res 124 [some (.ref 76), none, some (.ref p2), some (.int s124.1), none] [] s124.2 0 0) Ψ) (.inr x124s) → ea_Ev G F_X10_reckon res 154 [none, none, none, none, none] [] x124s 0 0 := hX
  unfold f_X10_reckon_s124
  refine ev_iload_n (ea_at dt_X10_reckon 64 rfl) rfl ?_
  refine ev_aload_n (ea_at dt_X10_reckon 65 rfl) rfl ?_
  refine ev_getR (ea_at dt_X10_reckon 66 rfl) fl_X10_9 sh_76 rfl ?_
  refine ev_alen (ea_at dt_X10_reckon 67 rfl) sh_77 (by decide) (by decide) ol_208 ?_
  refine ev_icmp_ge (tgt := 154) (ea_at dt_X10_reckon 68 rfl) rfl (fun _ => ?_) (fun _ => ?_)
  · exact ev_leaf (fun h => ea_drop (l' := [none, none, none, none, none]) ⟨Or.inl rfl, Or.inl rfl, Or.inl rfl, Or.inl rfl, Or.inl rfl, trivial⟩ (hX s124.2 h))
  · refine ev_aload_n (ea_at dt_X10_reckon 69 rfl) rfl ?_
    refine ev_dup (ea_at dt_X10_reckon 70 rfl) rfl ?_
    refine ev_getI (ea_at dt_X10_reckon 71 rfl) fl_X10_58 hp2.1 rfl ?_
    refine ev_i (fun x17 => ?_)
    refine ev_aload_n (ea_at dt_X10_reckon 72 rfl) rfl ?_
    refine ev_getR (ea_at dt_X10_reckon 73 rfl) fl_X10_9 sh_76 rfl ?_
    refine ev_iload_n (ea_at dt_X10_reckon 74 rfl) rfl ?_
    refine ev_iaload (ea_at dt_X10_reckon 75 rfl) sh_77 (by decide) ?_
    refine ev_i (fun x18 => ?_)
    refine ev_iadd (ea_at dt_X10_reckon 76 rfl) ?_
    refine ev_putI (ea_at dt_X10_reckon 77 rfl) fl_X10_58 fp_4_1 hp2.1 rfl ?_
    refine ev_m (fun m19 => ?_)
    refine ev_iinc (ls' := [some (.ref 76), none, some (.ref p2), some (.int (s124.1 + 1)), none]) (ea_at dt_X10_reckon 78 rfl) rfl (congrArg (fun z => _ + z) ic_1) (ea_lt rfl) rfl ?_
    refine ev_goto (tgt := 124) (ea_at dt_X10_reckon 79 rfl) rfl ?_
    exact ev_leaf (fun h => ea_drop (l' := [some (.ref 76), none, some (.ref p2), some (.int (s124.1 + 1)), none]) ⟨Or.inr rfl, Or.inl rfl, Or.inr rfl, Or.inr rfl, Or.inl rfl, trivial⟩ (hC (s124.1 + 1, m19) h))
set_option maxHeartbeats 300000 in
theorem ok_X10_reckon (G : ea_G) (p1 : Int32) (p2 : Nat) (m : ea_M) (hp2 : ea_isFates p2) (rZ : Int32) (mZ : ea_M) (hZ : f_X10_reckon p1 p2 m = some (rZ, mZ)) : ea_Met G yX10_reckon F_X10_reckon [.ref 76, .int p1, .ref p2] m (0, rZ, mZ) := by
  refine ea_met (F := F_X10_reckon) (by decide +kernel) rfl rfl (Nat.le_of_ble_eq_true rfl) (by simp only [List.mem_cons, List.not_mem_nil, or_false]; intro v hv; rcases hv with rfl | rfl | rfl <;> rfl) ((?_ : ea_E G F_X10_reckon (0, rZ, mZ) 0 [some (.ref 76), some (.int p1), some (.ref p2), none, none] [] m 0 0 (f_X10_reckon p1 p2 m) (fun t => t = (rZ, mZ))) (rZ, mZ) hZ rfl)
  have hR : ∀ t : Int32 × ea_M, t = (rZ, mZ) → ((0, rZ, mZ) : ea_O) = (0, t) := fun t h => by rw [h]
  unfold f_X10_reckon
  refine ev_aload_n (ea_at dt_X10_reckon 0 rfl) rfl ?_
  refine ev_clU (F1 := F_X4_clear) (fun rY mY hY => ea_runV (As := []) (ea_at dt_X10_reckon 1 rfl) ml_X10_22 mv_X4_clear (ok_X4_clear G p2 m hp2 rY mY hY) hp2.1 rfl rfl rfl (Nat.le_of_ble_eq_true rfl) rfl) rfl (fun r2 m1 => ?_)
  refine ev_aload_n (ea_at dt_X10_reckon 2 rfl) rfl ?_
  refine ev_getR (ea_at dt_X10_reckon 3 rfl) fl_X10_9 sh_76 rfl ?_
  refine ev_iconst (ea_at dt_X10_reckon 4 rfl) ic_0 ?_
  refine ev_clU (F1 := F_J7_fill_53178) (fun rY mY hY => ea_runS (As := [.ref 77, .int 0]) (ea_at dt_X10_reckon 5 rfl) ml_X10_27 mv_J7_fill_53178 (ok_J7_fill_53178 G 77 208 0 m1 sh_77 (by decide) rY mY hY) rfl rfl (Nat.le_of_ble_eq_true rfl) rfl) rfl (fun r4 m3 => ?_)
  refine ev_aload_n (ea_at dt_X10_reckon 6 rfl) rfl ?_
  refine ev_getR (ea_at dt_X10_reckon 7 rfl) fl_X10_9 sh_76 rfl ?_
  refine ev_aload_n (ea_at dt_X10_reckon 8 rfl) rfl ?_
  refine ev_getR (ea_at dt_X10_reckon 9 rfl) fl_X10_18 sh_76 rfl ?_
  refine ev_getR (ea_at dt_X10_reckon 10 rfl) fl_X10_33 sh_73 rfl ?_
  refine ev_getI (ea_at dt_X10_reckon 11 rfl) fl_X10_39 sh_2 rfl ?_
  refine ev_i (fun x5 => ?_)
  refine ev_bipush (ea_at dt_X10_reckon 12 rfl) bp_16 ?_
  refine ev_imul (ea_at dt_X10_reckon 13 rfl) ?_
  refine ev_aload_n (ea_at dt_X10_reckon 14 rfl) rfl ?_
  refine ev_getR (ea_at dt_X10_reckon 15 rfl) fl_X10_18 sh_76 rfl ?_
  refine ev_getR (ea_at dt_X10_reckon 16 rfl) fl_X10_33 sh_73 rfl ?_
  refine ev_getI (ea_at dt_X10_reckon 17 rfl) fl_X10_45 sh_2 rfl ?_
  refine ev_i (fun x6 => ?_)
  refine ev_iadd (ea_at dt_X10_reckon 18 rfl) ?_
  refine ev_i (fun x7 => ?_)
  refine ev_iconst (ea_at dt_X10_reckon 19 rfl) ic_1 ?_
  refine ev_iastore (ea_at dt_X10_reckon 20 rfl) sh_77 (by decide) ?_
  refine ev_m (fun m8 => ?_)
  refine ev_iconst (ea_at dt_X10_reckon 21 rfl) ic_1 ?_
  refine ev_istore_n (ls' := [some (.ref 76), some (.int p1), some (.ref p2), some (.int 1), none]) (ea_at dt_X10_reckon 22 rfl) (ea_lt rfl) rfl ?_
  refine ev_drop (l' := [some (.ref 76), some (.int p1), some (.ref p2), some (.int 1), none]) ⟨Or.inr rfl, Or.inr rfl, Or.inr rfl, Or.inr rfl, Or.inl rfl, trivial⟩ ?_
  refine ev_bind (lp_X10_reckon_44 G p1 p2 hp2  (fun x44s h => ?_) ea_fuel (1, m8))
  obtain ⟨t1, e1, q1⟩ := h
  refine (?_ : ea_E G F_X10_reckon (0, rZ, mZ) 121 [some (.ref 76), none, some (.ref p2), none, none] [] x44s 0 0 _ (fun t => t = (rZ, mZ))) t1 e1 q1
  refine ev_bipush (ea_at dt_X10_reckon 62 rfl) bp_16 ?_
  refine ev_istore_n (ls' := [some (.ref 76), none, some (.ref p2), some (.int 16), none]) (ea_at dt_X10_reckon 63 rfl) (ea_lt rfl) rfl ?_
  refine ev_drop (l' := [some (.ref 76), none, some (.ref p2), some (.int 16), none]) ⟨Or.inr rfl, Or.inl rfl, Or.inr rfl, Or.inr rfl, Or.inl rfl, trivial⟩ ?_
  refine ev_bind (lp_X10_reckon_124 G p2 hp2  (fun x124s h => ?_) ea_fuel (16, x44s))
  obtain ⟨t1, e1, q1⟩ := h
  refine (?_ : ea_E G F_X10_reckon (0, rZ, mZ) 154 [none, none, none, none, none] [] x124s 0 0 _ (fun t => t = (rZ, mZ))) t1 e1 q1
  exact ev_vret (ea_at dt_X10_reckon 80 rfl) rfl ⟨by decide, by decide⟩ (fun h => ⟨0, hR _ h⟩)
def F_X11_reckonFates : ea_F := (ea_rm 14 0 0, cX11_reckonFates, RX11, none, 2, [], 0, 0)
def D_X11_reckonFates : List (Nat × Instr × Nat) := [(0, .iconst 0, 1), (1, .istore_n 1, 1), (2, .iload_n 1, 1), (3, .aload_n 0, 1), (4, .getfield 23, 3), (7, .getfield 233, 3), (10, .if_icmp .ge 30, 3), (13, .aload_n 0, 1), (14, .getfield 102, 3), (17, .ifCond .ne 23, 3), (20, .aload_n 0, 1), (21, .getfield 92, 3), (24, .iload_n 1, 1), (25, .aload_n 0, 1), (26, .getfield 98, 3), (29, .iload_n 1, 1), (30, .aaload, 1), (31, .invokevirtual 360, 3), (34, .iinc 1 1, 3), (37, .goto (-35), 3), (40, .aload_n 0, 1), (41, .iconst 1, 1), (42, .putfield 102, 3), (45, .return_, 1)]
theorem dt_X11_reckonFates : ∀ q ∈ D_X11_reckonFates, decode cX11_reckonFates q.1 = .ok q.2 := by decide +kernel
theorem mv_X11_reckonFates : ea_MV yX11_reckonFates (F_X11_reckonFates) 0 := ⟨⟨List.mem_append_right _ (List.mem_of_getElem? (i := 1) (by decide +kernel)), List.mem_append_right _ (List.mem_of_getElem? (i := 512) (by decide +kernel)), ⟨by decide, by decide⟩, by decide +kernel⟩, List.mem_append_right _ (List.mem_of_getElem? (i := 511) (by decide +kernel)), List.mem_append_left _ (List.mem_of_getElem? (i := 1) (by decide +kernel))⟩
def f_X11_reckonFates_s2  (s2 : Int32 × ea_M) : Option ((Int32 × ea_M) ⊕ (ea_M)) :=
  ea_bd (s2.2 2 8) fun x1 =>
  if x1 ≤ s2.1 then
  some (.inr s2.2)
  else
  ea_bd (s2.2 0 18) fun x2 =>
  if x2 = 0 then
  ea_g s2.1 6 (ea_bd (ea_rFates.getD (Int32.toNatClampNeg s2.1) 0) fun a3 =>
  ea_cl (f_X10_reckon s2.1 a3 s2.2) fun r5 m4 =>
  some (.inl (s2.1 + 1, m4)))
  else
  some (.inr s2.2)
def f_X11_reckonFates (m : ea_M) : Option (Int32 × ea_M) :=
  (ea_loop f_X11_reckonFates_s2 ea_fuel (0, m)).bind (fun x2s =>
  ea_bd (ea_st x2s 0 18 1) fun m6 =>
  some (0, m6))
set_option maxHeartbeats 300000 in
theorem lp_X11_reckonFates_2 (G : ea_G) {res : ea_O}    {Ψ : ea_M → Prop} (hX : ∀ x2s : ea_M, Ψ x2s → ea_Ev G F_X11_reckonFates res 40 [some (.ref 0), none] [] x2s 0 0) : ∀ (f : Nat) (s2 : Int32 × ea_M), ea_E G F_X11_reckonFates res 2 [some (.ref 0), some (.int s2.1)] [] s2.2 0 0 (ea_loop f_X11_reckonFates_s2 f s2) Ψ := by
  refine ev_loop (G := G) (F := F_X11_reckonFates) (res := res) (pc := 2) (st := []) (k := 0) (n := 0) (step := f_X11_reckonFates_s2) (Ψ := Ψ) (fun (s2 : Int32 × ea_M) => [some (.ref 0), some (.int s2.1)]) (fun (s2 : Int32 × ea_M) => s2.2) (fun s2 => ?_)
  have hC : ∀ s2 : Int32 × ea_M, (Sum.elim (fun s2 : Int32 × ea_M => ea_Ev G F_X11_reckonFates res 2 [some (.ref 0), some (.int s2.1)] [] s2.2 0 0) Ψ) (.inl s2) → ea_Ev G F_X11_reckonFates res 2 [some (.ref 0), some (.int s2.1)] [] s2.2 0 0 := fun _ h => h
  have hX : ∀ x2s : ea_M, (Sum.elim (fun s2 : Int32 × ea_M => ea_Ev G F_X11_reckonFates res 2 [some (.ref 0), some (.int s2.1)] [] s2.2 0 0) Ψ) (.inr x2s) → ea_Ev G F_X11_reckonFates res 40 [some (.ref 0), none] [] x2s 0 0 := hX
  unfold f_X11_reckonFates_s2
  refine ev_iload_n (ea_at dt_X11_reckonFates 2 rfl) rfl ?_
  refine ev_aload_n (ea_at dt_X11_reckonFates 3 rfl) rfl ?_
  refine ev_getR (ea_at dt_X11_reckonFates 4 rfl) fl_X11_23 sh_0 rfl ?_
  refine ev_getI (ea_at dt_X11_reckonFates 5 rfl) fl_X11_233 sh_2 rfl ?_
  refine ev_i (fun x1 => ?_)
  refine ev_icmp_ge (tgt := 40) (ea_at dt_X11_reckonFates 6 rfl) rfl (fun _ => ?_) (fun _ => ?_)
  · exact ev_leaf (fun h => ea_drop (l' := [some (.ref 0), none]) ⟨Or.inr rfl, Or.inl rfl, trivial⟩ (hX s2.2 h))
  · refine ev_aload_n (ea_at dt_X11_reckonFates 7 rfl) rfl ?_
    refine ev_getI (ea_at dt_X11_reckonFates 8 rfl) fl_X11_102 sh_0 rfl ?_
    refine ev_i (fun x2 => ?_)
    refine ev_if_ne (tgt := 40) (ea_at dt_X11_reckonFates 9 rfl) rfl (fun _ => ?_) (fun _ => ?_)
    · refine ev_aload_n (ea_at dt_X11_reckonFates 10 rfl) rfl ?_
      refine ev_getR (ea_at dt_X11_reckonFates 11 rfl) fl_X11_92 sh_0 rfl ?_
      refine ev_iload_n (ea_at dt_X11_reckonFates 12 rfl) rfl ?_
      refine ev_aload_n (ea_at dt_X11_reckonFates 13 rfl) rfl ?_
      refine ev_getR (ea_at dt_X11_reckonFates 14 rfl) fl_X11_98 sh_0 rfl ?_
      refine ev_iload_n (ea_at dt_X11_reckonFates 15 rfl) rfl ?_
      refine ev_aaloadP (rs := ea_rFates) (P := ea_isFates) ea_rFates_is (ea_at dt_X11_reckonFates 16 rfl) sh_79 rfl (fun a3 ha3 => ?_)
      refine ev_clU (F1 := F_X10_reckon) (fun rY mY hY => ea_runV (As := [.int s2.1, .ref a3]) (ea_at dt_X11_reckonFates 17 rfl) ml_X11_360 mv_X10_reckon (ok_X10_reckon G s2.1 a3 s2.2 ha3 rY mY hY) sh_76 rfl rfl rfl (Nat.le_of_ble_eq_true rfl) rfl) rfl (fun r5 m4 => ?_)
      refine ev_iinc (ls' := [some (.ref 0), some (.int (s2.1 + 1))]) (ea_at dt_X11_reckonFates 18 rfl) rfl (congrArg (fun z => _ + z) ic_1) (ea_lt rfl) rfl ?_
      refine ev_goto (tgt := 2) (ea_at dt_X11_reckonFates 19 rfl) rfl ?_
      exact ev_leaf (fun h => ea_drop (l' := [some (.ref 0), some (.int (s2.1 + 1))]) ⟨Or.inr rfl, Or.inr rfl, trivial⟩ (hC (s2.1 + 1, m4) h))
    · exact ev_leaf (fun h => ea_drop (l' := [some (.ref 0), none]) ⟨Or.inr rfl, Or.inl rfl, trivial⟩ (hX s2.2 h))
set_option maxHeartbeats 300000 in
theorem ok_X11_reckonFates (G : ea_G) (m : ea_M)  (rZ : Int32) (mZ : ea_M) (hZ : f_X11_reckonFates m = some (rZ, mZ)) : ea_Met G yX11_reckonFates F_X11_reckonFates [.ref 0] m (0, rZ, mZ) := by
  refine ea_met (F := F_X11_reckonFates) (by decide +kernel) rfl rfl (Nat.le_of_ble_eq_true rfl) (by simp only [List.mem_cons, List.not_mem_nil, or_false]; intro v hv; rcases hv with rfl <;> rfl) ((?_ : ea_E G F_X11_reckonFates (0, rZ, mZ) 0 [some (.ref 0), none] [] m 0 0 (f_X11_reckonFates m) (fun t => t = (rZ, mZ))) (rZ, mZ) hZ rfl)
  have hR : ∀ t : Int32 × ea_M, t = (rZ, mZ) → ((0, rZ, mZ) : ea_O) = (0, t) := fun t h => by rw [h]
  unfold f_X11_reckonFates
  refine ev_iconst (ea_at dt_X11_reckonFates 0 rfl) ic_0 ?_
  refine ev_istore_n (ls' := [some (.ref 0), some (.int 0)]) (ea_at dt_X11_reckonFates 1 rfl) (ea_lt rfl) rfl ?_
  refine ev_drop (l' := [some (.ref 0), some (.int 0)]) ⟨Or.inr rfl, Or.inr rfl, trivial⟩ ?_
  refine ev_bind (lp_X11_reckonFates_2 G   (fun x2s h => ?_) ea_fuel (0, m))
  obtain ⟨t1, e1, q1⟩ := h
  refine (?_ : ea_E G F_X11_reckonFates (0, rZ, mZ) 40 [some (.ref 0), none] [] x2s 0 0 _ (fun t => t = (rZ, mZ))) t1 e1 q1
  refine ev_aload_n (ea_at dt_X11_reckonFates 20 rfl) rfl ?_
  refine ev_iconst (ea_at dt_X11_reckonFates 21 rfl) ic_1 ?_
  refine ev_putZ (by decide) (ea_at dt_X11_reckonFates 22 rfl) fl_X11_102 fp_11_18 sh_0 rfl ?_
  refine ev_m (fun m6 => ?_)
  exact ev_vret (ea_at dt_X11_reckonFates 23 rfl) rfl ⟨by decide, by decide⟩ (fun h => ⟨0, hR _ h⟩)
def F_X4_allGood : ea_F := (ea_rm 8 0 0, cX4_allGood, RX4, some .int, 3, [], 0, 0)
def D_X4_allGood : List (Nat × Instr × Nat) := [(0, .iconst 0, 1), (1, .istore_n 1, 1), (2, .iconst 1, 1), (3, .istore_n 2, 1), (4, .iload_n 2, 1), (5, .bipush 8, 2), (7, .if_icmp .gt 18, 3), (10, .iload_n 1, 1), (11, .aload_n 0, 1), (12, .getfield 22, 3), (15, .iload_n 2, 1), (16, .iaload, 1), (17, .iadd, 1), (18, .istore_n 1, 1), (19, .iinc 2 1, 3), (22, .goto (-18), 3), (25, .iload_n 1, 1), (26, .ireturn, 1)]
theorem dt_X4_allGood : ∀ q ∈ D_X4_allGood, decode cX4_allGood q.1 = .ok q.2 := by decide +kernel
theorem mv_X4_allGood : ea_MV yX4_allGood (F_X4_allGood) 0 := ⟨⟨List.mem_append_right _ (List.mem_of_getElem? (i := 12) (by decide +kernel)), List.mem_append_right _ (List.mem_of_getElem? (i := 1189) (by decide +kernel)), ⟨by decide, by decide⟩, by decide +kernel⟩, List.mem_append_right _ (List.mem_of_getElem? (i := 1187) (by decide +kernel)), List.mem_append_right _ (List.mem_of_getElem? (i := 1188) (by decide +kernel))⟩
def f_X4_allGood_s4 (a : Nat)  (s4 : Int32 × Int32 × ea_M) : Option ((Int32 × Int32 × ea_M) ⊕ (Int32 × ea_M)) :=
  if 8 < s4.2.1 then
  some (.inr (s4.1, s4.2.2))
  else
  ea_g s4.2.1 9 (ea_bd (s4.2.2 (a + 2) (Int32.toNatClampNeg s4.2.1)) fun x1 =>
  ea_bd (s4.1 + x1) fun x2 =>
  some (.inl (x2, s4.2.1 + 1, s4.2.2)))
def f_X4_allGood (a : Nat) (m : ea_M) : Option (Int32 × ea_M) :=
  (ea_loop (f_X4_allGood_s4 a) ea_fuel (0, 1, m)).bind (fun x4s =>
  some (x4s.1, x4s.2))
set_option maxHeartbeats 300000 in
theorem lp_X4_allGood_4 (G : ea_G) {res : ea_O}  (a : Nat) (ha : ea_isFates a) {Ψ : (Int32 × ea_M) → Prop} (hX : ∀ x4s : Int32 × ea_M, Ψ x4s → ea_Ev G F_X4_allGood res 25 [none, some (.int x4s.1), none] [] x4s.2 0 0) : ∀ (f : Nat) (s4 : Int32 × Int32 × ea_M), ea_E G F_X4_allGood res 4 [some (.ref a), some (.int s4.1), some (.int s4.2.1)] [] s4.2.2 0 0 (ea_loop (f_X4_allGood_s4 a) f s4) Ψ := by
  refine ev_loop (G := G) (F := F_X4_allGood) (res := res) (pc := 4) (st := []) (k := 0) (n := 0) (step := (f_X4_allGood_s4 a)) (Ψ := Ψ) (fun (s4 : Int32 × Int32 × ea_M) => [some (.ref a), some (.int s4.1), some (.int s4.2.1)]) (fun (s4 : Int32 × Int32 × ea_M) => s4.2.2) (fun s4 => ?_)
  have hC : ∀ s4 : Int32 × Int32 × ea_M, (Sum.elim (fun s4 : Int32 × Int32 × ea_M => ea_Ev G F_X4_allGood res 4 [some (.ref a), some (.int s4.1), some (.int s4.2.1)] [] s4.2.2 0 0) Ψ) (.inl s4) → ea_Ev G F_X4_allGood res 4 [some (.ref a), some (.int s4.1), some (.int s4.2.1)] [] s4.2.2 0 0 := fun _ h => h
  have hX : ∀ x4s : Int32 × ea_M, (Sum.elim (fun s4 : Int32 × Int32 × ea_M => ea_Ev G F_X4_allGood res 4 [some (.ref a), some (.int s4.1), some (.int s4.2.1)] [] s4.2.2 0 0) Ψ) (.inr x4s) → ea_Ev G F_X4_allGood res 25 [none, some (.int x4s.1), none] [] x4s.2 0 0 := hX
  unfold f_X4_allGood_s4
  refine ev_iload_n (ea_at dt_X4_allGood 4 rfl) rfl ?_
  refine ev_bipush (ea_at dt_X4_allGood 5 rfl) bp_8 ?_
  refine ev_icmp_gt (tgt := 25) (ea_at dt_X4_allGood 6 rfl) rfl (fun _ => ?_) (fun _ => ?_)
  · exact ev_leaf (fun h => ea_drop (l' := [none, some (.int s4.1), none]) ⟨Or.inl rfl, Or.inr rfl, Or.inl rfl, trivial⟩ (hX (s4.1, s4.2.2) h))
  · refine ev_iload_n (ea_at dt_X4_allGood 7 rfl) rfl ?_
    refine ev_aload_n (ea_at dt_X4_allGood 8 rfl) rfl ?_
    refine ev_getR (ea_at dt_X4_allGood 9 rfl) fl_X4_22 ha.1 rfl ?_
    refine ev_iload_n (ea_at dt_X4_allGood 10 rfl) rfl ?_
    refine ev_iaload (ea_at dt_X4_allGood 11 rfl) ha.2.2 (by decide) ?_
    refine ev_i (fun x1 => ?_)
    refine ev_iadd (ea_at dt_X4_allGood 12 rfl) ?_
    refine ev_i (fun x2 => ?_)
    refine ev_istore_n (ls' := [some (.ref a), some (.int x2), some (.int s4.2.1)]) (ea_at dt_X4_allGood 13 rfl) (ea_lt rfl) rfl ?_
    refine ev_iinc (ls' := [some (.ref a), some (.int x2), some (.int (s4.2.1 + 1))]) (ea_at dt_X4_allGood 14 rfl) rfl (congrArg (fun z => _ + z) ic_1) (ea_lt rfl) rfl ?_
    refine ev_goto (tgt := 4) (ea_at dt_X4_allGood 15 rfl) rfl ?_
    exact ev_leaf (fun h => ea_drop (l' := [some (.ref a), some (.int x2), some (.int (s4.2.1 + 1))]) ⟨Or.inr rfl, Or.inr rfl, Or.inr rfl, trivial⟩ (hC (x2, s4.2.1 + 1, s4.2.2) h))
set_option maxHeartbeats 300000 in
theorem ok_X4_allGood (G : ea_G) (a : Nat) (m : ea_M) (ha : ea_isFates a) (rZ : Int32) (mZ : ea_M) (hZ : f_X4_allGood a m = some (rZ, mZ)) : ea_Met G yX4_allGood F_X4_allGood [.ref a] m (0, rZ, mZ) := by
  refine ea_met (F := F_X4_allGood) (by decide +kernel) rfl rfl (Nat.le_of_ble_eq_true rfl) (by simp only [List.mem_cons, List.not_mem_nil, or_false]; intro v hv; rcases hv with rfl <;> rfl) ((?_ : ea_E G F_X4_allGood (0, rZ, mZ) 0 [some (.ref a), none, none] [] m 0 0 (f_X4_allGood a m) (fun t => t = (rZ, mZ))) (rZ, mZ) hZ rfl)
  have hR : ∀ t : Int32 × ea_M, t = (rZ, mZ) → ((0, rZ, mZ) : ea_O) = (0, t) := fun t h => by rw [h]
  unfold f_X4_allGood
  refine ev_iconst (ea_at dt_X4_allGood 0 rfl) ic_0 ?_
  refine ev_istore_n (ls' := [some (.ref a), some (.int 0), none]) (ea_at dt_X4_allGood 1 rfl) (ea_lt rfl) rfl ?_
  refine ev_iconst (ea_at dt_X4_allGood 2 rfl) ic_1 ?_
  refine ev_istore_n (ls' := [some (.ref a), some (.int 0), some (.int 1)]) (ea_at dt_X4_allGood 3 rfl) (ea_lt rfl) rfl ?_
  refine ev_drop (l' := [some (.ref a), some (.int 0), some (.int 1)]) ⟨Or.inr rfl, Or.inr rfl, Or.inr rfl, trivial⟩ ?_
  refine ev_bind (lp_X4_allGood_4 G a ha  (fun x4s h => ?_) ea_fuel (0, 1, m))
  obtain ⟨t1, e1, q1⟩ := h
  refine (?_ : ea_E G F_X4_allGood (0, rZ, mZ) 25 [none, some (.int x4s.1), none] [] x4s.2 0 0 _ (fun t => t = (rZ, mZ))) t1 e1 q1
  refine ev_iload_n (ea_at dt_X4_allGood 16 rfl) rfl ?_
  exact ev_iret (ea_at dt_X4_allGood 17 rfl) rfl ⟨by decide, by decide⟩ (fun h => hR _ h)
