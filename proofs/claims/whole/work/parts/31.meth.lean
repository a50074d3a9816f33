def F_X12_goodFirst : ea_F := (ea_rm 9 0 0, cX12_goodFirst, RX12, some .int, 3, [], 0, 0)
def D_X12_goodFirst : List (Nat × Instr × Nat) := [(0, .aload_n 0, 1), (1, .iconst 0, 1), (2, .invokevirtual 366, 3), (5, .istore_n 1, 1), (6, .aload_n 0, 1), (7, .iconst 1, 1), (8, .invokevirtual 366, 3), (11, .istore_n 2, 1), (12, .iload_n 1, 1), (13, .ifCond .ne 7, 3), (16, .iload_n 2, 1), (17, .goto 16, 3), (20, .iload_n 2, 1), (21, .ifCond .ne 7, 3), (24, .iload_n 1, 1), (25, .goto 8, 3), (28, .iload_n 1, 1), (29, .iload_n 2, 1), (30, .invokestatic 295, 3), (33, .ireturn, 1)]
theorem dt_X12_goodFirst : ∀ q ∈ D_X12_goodFirst, decode cX12_goodFirst q.1 = .ok q.2 := by decide +kernel
theorem mv_X12_goodFirst : ea_MV yX12_goodFirst (F_X12_goodFirst) 0 := ⟨⟨List.mem_append_right _ (List.mem_of_getElem? (i := 13) (by decide +kernel)), List.mem_append_right _ (List.mem_of_getElem? (i := 1945) (by decide +kernel)), ⟨by decide, by decide⟩, by decide +kernel⟩, List.mem_append_right _ (List.mem_of_getElem? (i := 1944) (by decide +kernel)), List.mem_append_left _ (List.mem_of_getElem? (i := 111) (by decide +kernel))⟩
def f_X12_goodFirst (m : ea_M) : Option (Int32 × ea_M) :=
  ea_cl (f_X12_goodIn 0 m) fun r2 m1 =>
  ea_cl (f_X12_goodIn 1 m1) fun r4 m3 =>
  if r2 = 0 then
  some (r4, m3)
  else
  if r4 = 0 then
  some (r2, m3)
  else
  ea_bd (ea_min r2 r4) fun x5 =>
  some (x5, m3)
set_option maxHeartbeats 300000 in
theorem ok_X12_goodFirst (G : ea_G) (m : ea_M)  (rZ : Int32) (mZ : ea_M) (hZ : f_X12_goodFirst m = some (rZ, mZ)) : ea_Met G yX12_goodFirst F_X12_goodFirst [.ref 272] m (0, rZ, mZ) := by
  refine ea_met (F := F_X12_goodFirst) (by decide +kernel) rfl rfl (Nat.le_of_ble_eq_true rfl) (by simp only [List.mem_cons, List.not_mem_nil, or_false]; intro v hv; rcases hv with rfl <;> rfl) ((?_ : ea_E G F_X12_goodFirst (0, rZ, mZ) 0 [some (.ref 272), none, none] [] m 0 0 (f_X12_goodFirst m) (fun t => t = (rZ, mZ))) (rZ, mZ) hZ rfl)
  have hR : ∀ t : Int32 × ea_M, t = (rZ, mZ) → ((0, rZ, mZ) : ea_O) = (0, t) := fun t h => by rw [h]
  unfold f_X12_goodFirst
  refine ev_aload_n (ea_at dt_X12_goodFirst 0 rfl) rfl ?_
  refine ev_iconst (ea_at dt_X12_goodFirst 1 rfl) ic_0 ?_
  refine ev_clI (F1 := F_X12_goodIn) (fun rY mY hY => ea_runV (As := [.int 0]) (ea_at dt_X12_goodFirst 2 rfl) ml_X12_366 mv_X12_goodIn (ok_X12_goodIn G 0 m  rY mY hY) sh_272 rfl rfl rfl (Nat.le_of_ble_eq_true rfl) rfl) rfl (fun r2 m1 => ?_)
  refine ev_istore_n (ls' := [some (.ref 272), some (.int r2), none]) (ea_at dt_X12_goodFirst 3 rfl) (ea_lt rfl) rfl ?_
  refine ev_aload_n (ea_at dt_X12_goodFirst 4 rfl) rfl ?_
  refine ev_iconst (ea_at dt_X12_goodFirst 5 rfl) ic_1 ?_
  refine ev_clI (F1 := F_X12_goodIn) (fun rY mY hY => ea_runV (As := [.int 1]) (ea_at dt_X12_goodFirst 6 rfl) ml_X12_366 mv_X12_goodIn (ok_X12_goodIn G 1 m1  rY mY hY) sh_272 rfl rfl rfl (Nat.le_of_ble_eq_true rfl) rfl) rfl (fun r4 m3 => ?_)
  refine ev_istore_n (ls' := [some (.ref 272), some (.int r2), some (.int r4)]) (ea_at dt_X12_goodFirst 7 rfl) (ea_lt rfl) rfl ?_
  refine ev_iload_n (ea_at dt_X12_goodFirst 8 rfl) rfl ?_
  refine ev_if_ne (tgt := 20) (ea_at dt_X12_goodFirst 9 rfl) rfl (fun _ => ?_) (fun _ => ?_)
  · refine ev_iload_n (ea_at dt_X12_goodFirst 10 rfl) rfl ?_
    refine ev_goto (tgt := 33) (ea_at dt_X12_goodFirst 11 rfl) rfl ?_
    exact ev_iret (ea_at dt_X12_goodFirst 19 rfl) rfl ⟨by decide, by decide⟩ (fun h => hR _ h)
  · refine ev_iload_n (ea_at dt_X12_goodFirst 12 rfl) rfl ?_
    refine ev_if_ne (tgt := 28) (ea_at dt_X12_goodFirst 13 rfl) rfl (fun _ => ?_) (fun _ => ?_)
    · refine ev_iload_n (ea_at dt_X12_goodFirst 14 rfl) rfl ?_
      refine ev_goto (tgt := 33) (ea_at dt_X12_goodFirst 15 rfl) rfl ?_
      exact ev_iret (ea_at dt_X12_goodFirst 19 rfl) rfl ⟨by decide, by decide⟩ (fun h => hR _ h)
    · refine ev_iload_n (ea_at dt_X12_goodFirst 16 rfl) rfl ?_
      refine ev_iload_n (ea_at dt_X12_goodFirst 17 rfl) rfl ?_
      refine ev_mmin (ea_at dt_X12_goodFirst 18 rfl) ml_X12_295 ea_maW_min ⟨by decide, Nat.le_of_ble_eq_true rfl, by decide, by decide⟩ ?_
      refine ev_i (fun x5 => ?_)
      exact ev_iret (ea_at dt_X12_goodFirst 19 rfl) rfl ⟨by decide, by decide⟩ (fun h => hR _ h)
def F_X12_laysGoods : ea_F := (ea_rm 16 0 0, cX12_laysGoods, RX12, none, 3, [], 0, 0)
def D_X12_laysGoods : List (Nat × Instr × Nat) := [(0, .aload_n 0, 1), (1, .iload_n 1, 1), (2, .invokevirtual 347, 3), (5, .iconst 1, 1), (6, .istore_n 2, 1), (7, .iload_n 2, 1), (8, .bipush 8, 2), (10, .if_icmp .gt 25, 3), (13, .aload_n 0, 1), (14, .getfield 57, 3), (17, .bipush 9, 2), (19, .iload_n 1, 1), (20, .imul, 1), (21, .iload_n 2, 1), (22, .iadd, 1), (23, .aload_n 0, 1), (24, .iload_n 2, 1), (25, .invokevirtual 344, 3), (28, .iastore, 1), (29, .iinc 2 1, 3), (32, .goto (-25), 3), (35, .return_, 1)]
theorem dt_X12_laysGoods : ∀ q ∈ D_X12_laysGoods, decode cX12_laysGoods q.1 = .ok q.2 := by decide +kernel
theorem mv_X12_laysGoods : ea_MV yX12_laysGoods (F_X12_laysGoods) 1 := ⟨⟨List.mem_append_right _ (List.mem_of_getElem? (i := 13) (by decide +kernel)), List.mem_append_right _ (List.mem_of_getElem? (i := 1823) (by decide +kernel)), ⟨by decide, by decide⟩, by decide +kernel⟩, List.mem_append_right _ (List.mem_of_getElem? (i := 1822) (by decide +kernel)), List.mem_append_left _ (List.mem_of_getElem? (i := 93) (by decide +kernel))⟩
def f_X12_laysGoods_s7 (p1 : Int32)  (s7 : Int32 × ea_M) : Option ((Int32 × ea_M) ⊕ (ea_M)) :=
  if 8 < s7.1 then
  some (.inr s7.2)
  else
  ea_bd ((9 * p1) + s7.1) fun x3 =>
  ea_cl (f_X12_goodAt s7.1 s7.2) fun r5 m4 =>
  ea_g x3 54 (ea_bd (ea_st m4 286 (Int32.toNatClampNeg x3) r5) fun m6 =>
  some (.inl (s7.1 + 1, m6)))
def f_X12_laysGoods (p1 : Int32) (m : ea_M) : Option (Int32 × ea_M) :=
  ea_cl (f_X12_laysWays p1 m) fun r2 m1 =>
  (ea_loop (f_X12_laysGoods_s7 p1) ea_fuel (1, m1)).bind (fun x7s =>
  some (0, x7s))
set_option maxHeartbeats 300000 in
theorem lp_X12_laysGoods_7 (G : ea_G) {res : ea_O}  (p1 : Int32)  {Ψ : ea_M → Prop} (hX : ∀ x7s : ea_M, Ψ x7s → ea_Ev G F_X12_laysGoods res 35 [none, none, none] [] x7s 0 0) : ∀ (f : Nat) (s7 : Int32 × ea_M), ea_E G F_X12_laysGoods res 7 [some (.ref 272), some (.int p1), some (.int s7.1)] [] s7.2 0 0 (ea_loop (f_X12_laysGoods_s7 p1) f s7) Ψ := by
  refine ev_loop (G := G) (F := F_X12_laysGoods) (res := res) (pc := 7) (st := []) (k := 0) (n := 0) (step := (f_X12_laysGoods_s7 p1)) (Ψ := Ψ) (fun (s7 : Int32 × ea_M) => [some (.ref 272), some (.int p1), some (.int s7.1)]) (fun (s7 : Int32 × ea_M) => s7.2) (fun s7 => ?_)
  have hC : ∀ s7 : Int32 × ea_M, (Sum.elim (fun s7 : Int32 × ea_M => ea_Ev G F_X12_laysGoods res 7 [some (.ref 272), some (.int p1), some (.int s7.1)] [] s7.2 0 0) Ψ) (.inl s7) → ea_Ev G F_X12_laysGoods res 7 [some (.ref 272), some (.int p1), some (.int s7.1)] [] s7.2 0 0 := fun _ h => h
  have hX : ∀ x7s : ea_M, (Sum.elim (fun s7 : Int32 × ea_M => ea_Ev G F_X12_laysGoods res 7 [some (.ref 272), some (.int p1), some (.int s7.1)] [] s7.2 0 0) Ψ) (.inr x7s) → ea_Ev G F_X12_laysGoods res 35 [none, none, none] [] x7s 0 0 := hX
  unfold f_X12_laysGoods_s7
  refine ev_iload_n (ea_at dt_X12_laysGoods 5 rfl) rfl ?_
  refine ev_bipush (ea_at dt_X12_laysGoods 6 rfl) bp_8 ?_
  refine ev_icmp_gt (tgt := 35) (ea_at dt_X12_laysGoods 7 rfl) rfl (fun _ => ?_) (fun _ => ?_)
  · exact ev_leaf (fun h => ea_drop (l' := [none, none, none]) ⟨Or.inl rfl, Or.inl rfl, Or.inl rfl, trivial⟩ (hX s7.2 h))
  · refine ev_aload_n (ea_at dt_X12_laysGoods 8 rfl) rfl ?_
    refine ev_getR (ea_at dt_X12_laysGoods 9 rfl) fl_X12_57 sh_272 rfl ?_
    refine ev_bipush (ea_at dt_X12_laysGoods 10 rfl) bp_9 ?_
    refine ev_iload_n (ea_at dt_X12_laysGoods 11 rfl) rfl ?_
    refine ev_imul (ea_at dt_X12_laysGoods 12 rfl) ?_
    refine ev_iload_n (ea_at dt_X12_laysGoods 13 rfl) rfl ?_
    refine ev_iadd (ea_at dt_X12_laysGoods 14 rfl) ?_
    refine ev_i (fun x3 => ?_)
    refine ev_aload_n (ea_at dt_X12_laysGoods 15 rfl) rfl ?_
    refine ev_iload_n (ea_at dt_X12_laysGoods 16 rfl) rfl ?_
    refine ev_clI (F1 := F_X12_goodAt) (fun rY mY hY => ea_runV (As := [.int s7.1]) (ea_at dt_X12_laysGoods 17 rfl) ml_X12_344 mv_X12_goodAt (ok_X12_goodAt G s7.1 s7.2  rY mY hY) sh_272 rfl rfl rfl (Nat.le_of_ble_eq_true rfl) rfl) rfl (fun r5 m4 => ?_)
    refine ev_iastore (ea_at dt_X12_laysGoods 18 rfl) sh_286 (by decide) ?_
    refine ev_m (fun m6 => ?_)
    refine ev_iinc (ls' := [some (.ref 272), some (.int p1), some (.int (s7.1 + 1))]) (ea_at dt_X12_laysGoods 19 rfl) rfl (congrArg (fun z => _ + z) ic_1) (ea_lt rfl) rfl ?_
    refine ev_goto (tgt := 7) (ea_at dt_X12_laysGoods 20 rfl) rfl ?_
    exact ev_leaf (fun h => ea_drop (l' := [some (.ref 272), some (.int p1), some (.int (s7.1 + 1))]) ⟨Or.inr rfl, Or.inr rfl, Or.inr rfl, trivial⟩ (hC (s7.1 + 1, m6) h))
set_option maxHeartbeats 300000 in
theorem ok_X12_laysGoods (G : ea_G) (p1 : Int32) (m : ea_M)  (rZ : Int32) (mZ : ea_M) (hZ : f_X12_laysGoods p1 m = some (rZ, mZ)) : ea_Met G yX12_laysGoods F_X12_laysGoods [.ref 272, .int p1] m (0, rZ, mZ) := by
  refine ea_met (F := F_X12_laysGoods) (by decide +kernel) rfl rfl (Nat.le_of_ble_eq_true rfl) (by simp only [List.mem_cons, List.not_mem_nil, or_false]; intro v hv; rcases hv with rfl | rfl <;> rfl) ((?_ : ea_E G F_X12_laysGoods (0, rZ, mZ) 0 [some (.ref 272), some (.int p1), none] [] m 0 0 (f_X12_laysGoods p1 m) (fun t => t = (rZ, mZ))) (rZ, mZ) hZ rfl)
  have hR : ∀ t : Int32 × ea_M, t = (rZ, mZ) → ((0, rZ, mZ) : ea_O) = (0, t) := fun t h => by rw [h]
  unfold f_X12_laysGoods
  refine ev_aload_n (ea_at dt_X12_laysGoods 0 rfl) rfl ?_
  refine ev_iload_n (ea_at dt_X12_laysGoods 1 rfl) rfl ?_
  refine ev_clU (F1 := F_X12_laysWays) (fun rY mY hY => ea_runV (As := [.int p1]) (ea_at dt_X12_laysGoods 2 rfl) ml_X12_347 mv_X12_laysWays (ok_X12_laysWays G p1 m  rY mY hY) sh_272 rfl rfl rfl (Nat.le_of_ble_eq_true rfl) rfl) rfl (fun r2 m1 => ?_)
  refine ev_iconst (ea_at dt_X12_laysGoods 3 rfl) ic_1 ?_
  refine ev_istore_n (ls' := [some (.ref 272), some (.int p1), some (.int 1)]) (ea_at dt_X12_laysGoods 4 rfl) (ea_lt rfl) rfl ?_
  refine ev_drop (l' := [some (.ref 272), some (.int p1), some (.int 1)]) ⟨Or.inr rfl, Or.inr rfl, Or.inr rfl, trivial⟩ ?_
  refine ev_bind (lp_X12_laysGoods_7 G p1   (fun x7s h => ?_) ea_fuel (1, m1))
  obtain ⟨t1, e1, q1⟩ := h
  refine (?_ : ea_E G F_X12_laysGoods (0, rZ, mZ) 35 [none, none, none] [] x7s 0 0 _ (fun t => t = (rZ, mZ))) t1 e1 q1
  exact ev_vret (ea_at dt_X12_laysGoods 21 rfl) rfl ⟨by decide, by decide⟩ (fun h => ⟨0, hR _ h⟩)
def F_X12_laysAllGoods : ea_F := (ea_rm 17 0 0, cX12_laysAllGoods, RX12, none, 2, [], 0, 0)
def D_X12_laysAllGoods : List (Nat × Instr × Nat) := [(0, .iconst 0, 1), (1, .istore_n 1, 1), (2, .iload_n 1, 1), (3, .aload_n 0, 1), (4, .invokevirtual 74, 3), (7, .if_icmp .ge 14, 3), (10, .aload_n 0, 1), (11, .iload_n 1, 1), (12, .invokevirtual 369, 3), (15, .iinc 1 1, 3), (18, .goto (-16), 3), (21, .return_, 1)]
theorem dt_X12_laysAllGoods : ∀ q ∈ D_X12_laysAllGoods, decode cX12_laysAllGoods q.1 = .ok q.2 := by decide +kernel
theorem mv_X12_laysAllGoods : ea_MV yX12_laysAllGoods (F_X12_laysAllGoods) 0 := ⟨⟨List.mem_append_right _ (List.mem_of_getElem? (i := 13) (by decide +kernel)), List.mem_append_right _ (List.mem_of_getElem? (i := 1819) (by decide +kernel)), ⟨by decide, by decide⟩, by decide +kernel⟩, List.mem_append_right _ (List.mem_of_getElem? (i := 1818) (by decide +kernel)), List.mem_append_left _ (List.mem_of_getElem? (i := 92) (by decide +kernel))⟩
def f_X12_laysAllGoods_s2  (s2 : Int32 × ea_M) : Option ((Int32 × ea_M) ⊕ (ea_M)) :=
  ea_cl (f_X12_birds s2.2) fun r2 m1 =>
  if r2 ≤ s2.1 then
  some (.inr m1)
  else
  ea_cl (f_X12_laysGoods s2.1 m1) fun r4 m3 =>
  some (.inl (s2.1 + 1, m3))
def f_X12_laysAllGoods (m : ea_M) : Option (Int32 × ea_M) :=
  (ea_loop f_X12_laysAllGoods_s2 ea_fuel (0, m)).bind (fun x2s =>
  some (0, x2s))
set_option maxHeartbeats 300000 in
theorem lp_X12_laysAllGoods_2 (G : ea_G) {res : ea_O}    {Ψ : ea_M → Prop} (hX : ∀ x2s : ea_M, Ψ x2s → ea_Ev G F_X12_laysAllGoods res 21 [none, none] [] x2s 0 0) : ∀ (f : Nat) (s2 : Int32 × ea_M), ea_E G F_X12_laysAllGoods res 2 [some (.ref 272), some (.int s2.1)] [] s2.2 0 0 (ea_loop f_X12_laysAllGoods_s2 f s2) Ψ := by
  refine ev_loop (G := G) (F := F_X12_laysAllGoods) (res := res) (pc := 2) (st := []) (k := 0) (n := 0) (step := f_X12_laysAllGoods_s2) (Ψ := Ψ) (fun (s2 : Int32 × ea_M) => [some (.ref 272), some (.int s2.1)]) (fun (s2 : Int32 × ea_M) => s2.2) (fun s2 => ?_)
  have hC : ∀ s2 : Int32 × ea_M, (Sum.elim (fun s2 : Int32 × ea_M => ea_Ev G F_X12_laysAllGoods res 2 [some (.ref 272), some (.int s2.1)] [] s2.2 0 0) Ψ) (.inl s2) → ea_Ev G F_X12_laysAllGoods res 2 [some (.ref 272), some (.int s2.1)] [] s2.2 0 0 := fun _ h => h
  have hX : ∀ x2s : ea_M, (Sum.elim (fun s2 : Int32 × ea_M => ea_Ev G F_X12_laysAllGoods res 2 [some (.ref 272), some (.int s2.1)] [] s2.2 0 0) Ψ) (.inr x2s) → ea_Ev G F_X12_laysAllGoods res 21 [none, none] [] x2s 0 0 := hX
  unfold f_X12_laysAllGoods_s2
  refine ev_iload_n (ea_at dt_X12_laysAllGoods 2 rfl) rfl ?_
  refine ev_aload_n (ea_at dt_X12_laysAllGoods 3 rfl) rfl ?_
  refine ev_clI (F1 := F_X12_birds) (fun rY mY hY => ea_runV (As := []) (ea_at dt_X12_laysAllGoods 4 rfl) ml_X12_74 mv_X12_birds (ok_X12_birds G s2.2  rY mY hY) sh_272 rfl rfl rfl (Nat.le_of_ble_eq_true rfl) rfl) rfl (fun r2 m1 => ?_)
  refine ev_icmp_ge (tgt := 21) (ea_at dt_X12_laysAllGoods 5 rfl) rfl (fun _ => ?_) (fun _ => ?_)
  · exact ev_leaf (fun h => ea_drop (l' := [none, none]) ⟨Or.inl rfl, Or.inl rfl, trivial⟩ (hX m1 h))
  · refine ev_aload_n (ea_at dt_X12_laysAllGoods 6 rfl) rfl ?_
    refine ev_iload_n (ea_at dt_X12_laysAllGoods 7 rfl) rfl ?_
    refine ev_clU (F1 := F_X12_laysGoods) (fun rY mY hY => ea_runV (As := [.int s2.1]) (ea_at dt_X12_laysAllGoods 8 rfl) ml_X12_369 mv_X12_laysGoods (ok_X12_laysGoods G s2.1 m1  rY mY hY) sh_272 rfl rfl rfl (Nat.le_of_ble_eq_true rfl) rfl) rfl (fun r4 m3 => ?_)
    refine ev_iinc (ls' := [some (.ref 272), some (.int (s2.1 + 1))]) (ea_at dt_X12_laysAllGoods 9 rfl) rfl (congrArg (fun z => _ + z) ic_1) (ea_lt rfl) rfl ?_
    refine ev_goto (tgt := 2) (ea_at dt_X12_laysAllGoods 10 rfl) rfl ?_
    exact ev_leaf (fun h => ea_drop (l' := [some (.ref 272), some (.int (s2.1 + 1))]) ⟨Or.inr rfl, Or.inr rfl, trivial⟩ (hC (s2.1 + 1, m3) h))
set_option maxHeartbeats 300000 in
theorem ok_X12_laysAllGoods (G : ea_G) (m : ea_M)  (rZ : Int32) (mZ : ea_M) (hZ : f_X12_laysAllGoods m = some (rZ, mZ)) : ea_Met G yX12_laysAllGoods F_X12_laysAllGoods [.ref 272] m (0, rZ, mZ) := by
  refine ea_met (F := F_X12_laysAllGoods) (by decide +kernel) rfl rfl (Nat.le_of_ble_eq_true rfl) (by simp only [List.mem_cons, List.not_mem_nil, or_false]; intro v hv; rcases hv with rfl <;> rfl) ((?_ : ea_E G F_X12_laysAllGoods (0, rZ, mZ) 0 [some (.ref 272), none] [] m 0 0 (f_X12_laysAllGoods m) (fun t => t = (rZ, mZ))) (rZ, mZ) hZ rfl)
  have hR : ∀ t : Int32 × ea_M, t = (rZ, mZ) → ((0, rZ, mZ) : ea_O) = (0, t) := fun t h => by rw [h]
  unfold f_X12_laysAllGoods
  refine ev_iconst (ea_at dt_X12_laysAllGoods 0 rfl) ic_0 ?_
  refine ev_istore_n (ls' := [some (.ref 272), some (.int 0)]) (ea_at dt_X12_laysAllGoods 1 rfl) (ea_lt rfl) rfl ?_
  refine ev_drop (l' := [some (.ref 272), some (.int 0)]) ⟨Or.inr rfl, Or.inr rfl, trivial⟩ ?_
  refine ev_bind (lp_X12_laysAllGoods_2 G   (fun x2s h => ?_) ea_fuel (0, m))
  obtain ⟨t1, e1, q1⟩ := h
  refine (?_ : ea_E G F_X12_laysAllGoods (0, rZ, mZ) 21 [none, none] [] x2s 0 0 _ (fun t => t = (rZ, mZ))) t1 e1 q1
  exact ev_vret (ea_at dt_X12_laysAllGoods 11 rfl) rfl ⟨by decide, by decide⟩ (fun h => ⟨0, hR _ h⟩)
def F_X12_goodOf : ea_F := (ea_rm 8 0 0, cX12_goodOf, RX12, some .int, 3, [], 0, 0)
def D_X12_goodOf : List (Nat × Instr × Nat) := [(0, .aload_n 0, 1), (1, .getfield 57, 3), (4, .bipush 9, 2), (6, .iload_n 1, 1), (7, .imul, 1), (8, .iload_n 2, 1), (9, .iadd, 1), (10, .iaload, 1), (11, .ireturn, 1)]
theorem dt_X12_goodOf : ∀ q ∈ D_X12_goodOf, decode cX12_goodOf q.1 = .ok q.2 := by decide +kernel
theorem mv_X12_goodOf : ea_MV yX12_goodOf (F_X12_goodOf) 2 := ⟨⟨List.mem_append_right _ (List.mem_of_getElem? (i := 13) (by decide +kernel)), List.mem_append_right _ (List.mem_of_getElem? (i := 1831) (by decide +kernel)), ⟨by decide, by decide⟩, by decide +kernel⟩, List.mem_append_right _ (List.mem_of_getElem? (i := 1830) (by decide +kernel)), List.mem_append_left _ (List.mem_of_getElem? (i := 95) (by decide +kernel))⟩
def f_X12_goodOf (p1 : Int32) (p2 : Int32) (m : ea_M) : Option (Int32 × ea_M) :=
  ea_bd ((9 * p1) + p2) fun x1 =>
  ea_g x1 54 (ea_bd (m 286 (Int32.toNatClampNeg x1)) fun x2 =>
  some (x2, m))
set_option maxHeartbeats 300000 in
theorem ok_X12_goodOf (G : ea_G) (p1 : Int32) (p2 : Int32) (m : ea_M)  (rZ : Int32) (mZ : ea_M) (hZ : f_X12_goodOf p1 p2 m = some (rZ, mZ)) : ea_Met G yX12_goodOf F_X12_goodOf [.ref 272, .int p1, .int p2] m (0, rZ, mZ) := by
  refine ea_met (F := F_X12_goodOf) (by decide +kernel) rfl rfl (Nat.le_of_ble_eq_true rfl) (by simp only [List.mem_cons, List.not_mem_nil, or_false]; intro v hv; rcases hv with rfl | rfl | rfl <;> rfl) ((?_ : ea_E G F_X12_goodOf (0, rZ, mZ) 0 [some (.ref 272), some (.int p1), some (.int p2)] [] m 0 0 (f_X12_goodOf p1 p2 m) (fun t => t = (rZ, mZ))) (rZ, mZ) hZ rfl)
  have hR : ∀ t : Int32 × ea_M, t = (rZ, mZ) → ((0, rZ, mZ) : ea_O) = (0, t) := fun t h => by rw [h]
  unfold f_X12_goodOf
  refine ev_aload_n (ea_at dt_X12_goodOf 0 rfl) rfl ?_
  refine ev_getR (ea_at dt_X12_goodOf 1 rfl) fl_X12_57 sh_272 rfl ?_
  refine ev_bipush (ea_at dt_X12_goodOf 2 rfl) bp_9 ?_
  refine ev_iload_n (ea_at dt_X12_goodOf 3 rfl) rfl ?_
  refine ev_imul (ea_at dt_X12_goodOf 4 rfl) ?_
  refine ev_iload_n (ea_at dt_X12_goodOf 5 rfl) rfl ?_
  refine ev_iadd (ea_at dt_X12_goodOf 6 rfl) ?_
  refine ev_i (fun x1 => ?_)
  refine ev_iaload (ea_at dt_X12_goodOf 7 rfl) sh_286 (by decide) ?_
  refine ev_i (fun x2 => ?_)
  exact ev_iret (ea_at dt_X12_goodOf 8 rfl) rfl ⟨by decide, by decide⟩ (fun h => hR _ h)
def F_X12_notGood : ea_F := (ea_rm 9 0 0, cX12_notGood, RX12, some .int, 5, [], 0, 0)
def D_X12_notGood : List (Nat × Instr × Nat) := [(0, .sipush 6561, 3), (3, .istore_n 3, 1), (4, .iconst 1, 1), (5, .istore 4, 2), (7, .iload 4, 2), (9, .iload_n 2, 1), (10, .if_icmp .gt 19, 3), (13, .iload_n 3, 1), (14, .aload_n 0, 1), (15, .iload_n 1, 1), (16, .iload 4, 2), (18, .invokevirtual 372, 3), (21, .isub, 1), (22, .istore_n 3, 1), (23, .iinc 4 1, 3), (26, .goto (-19), 3), (29, .iload_n 3, 1), (30, .ireturn, 1)]
theorem dt_X12_notGood : ∀ q ∈ D_X12_notGood, decode cX12_notGood q.1 = .ok q.2 := by decide +kernel
theorem mv_X12_notGood : ea_MV yX12_notGood (F_X12_notGood) 2 := ⟨⟨List.mem_append_right _ (List.mem_of_getElem? (i := 13) (by decide +kernel)), List.mem_append_right _ (List.mem_of_getElem? (i := 1835) (by decide +kernel)), ⟨by decide, by decide⟩, by decide +kernel⟩, List.mem_append_right _ (List.mem_of_getElem? (i := 1834) (by decide +kernel)), List.mem_append_left _ (List.mem_of_getElem? (i := 96) (by decide +kernel))⟩
def f_X12_notGood_s7 (p1 : Int32) (p2 : Int32)  (s7 : Int32 × Int32 × ea_M) : Option ((Int32 × Int32 × ea_M) ⊕ (Int32 × ea_M)) :=
  if p2 < s7.2.1 then
  some (.inr (s7.1, s7.2.2))
  else
  ea_cl (f_X12_goodOf p1 s7.2.1 s7.2.2) fun r2 m1 =>
  ea_bd (s7.1 - r2) fun x3 =>
  some (.inl (x3, s7.2.1 + 1, m1))
def f_X12_notGood (p1 : Int32) (p2 : Int32) (m : ea_M) : Option (Int32 × ea_M) :=
  (ea_loop (f_X12_notGood_s7 p1 p2) ea_fuel (6561, 1, m)).bind (fun x7s =>
  some (x7s.1, x7s.2))
set_option maxHeartbeats 300000 in
theorem lp_X12_notGood_7 (G : ea_G) {res : ea_O}  (p1 : Int32) (p2 : Int32)  {Ψ : (Int32 × ea_M) → Prop} (hX : ∀ x7s : Int32 × ea_M, Ψ x7s → ea_Ev G F_X12_notGood res 29 [none, none, none, some (.int x7s.1), none] [] x7s.2 0 0) : ∀ (f : Nat) (s7 : Int32 × Int32 × ea_M), ea_E G F_X12_notGood res 7 [some (.ref 272), some (.int p1), some (.int p2), some (.int s7.1), some (.int s7.2.1)] [] s7.2.2 0 0 (ea_loop (f_X12_notGood_s7 p1 p2) f s7) Ψ := by
  refine ev_loop (G := G) (F := F_X12_notGood) (res := res) (pc := 7) (st := []) (k := 0) (n := 0) (step := (f_X12_notGood_s7 p1 p2)) (Ψ := Ψ) (fun (s7 : Int32 × Int32 × ea_M) => [some (.ref 272), some (.int p1), some (.int p2), some (.int s7.1), some (.int s7.2.1)]) (fun (s7 : Int32 × Int32 × ea_M) => s7.2.2) (fun s7 => ?_)
  have hC : ∀ s7 : Int32 × Int32 × ea_M, (Sum.elim (fun s7 : Int32 × Int32 × ea_M => ea_Ev G F_X12_notGood res 7 [some (.ref 272), some (.int p1), some (.int p2), some (.int s7.1), some (.int s7.2.1)] [] s7.2.2 0 0) Ψ) (.inl s7) → ea_Ev G F_X12_notGood res 7 [some (.ref 272), some (.int p1), some (.int p2), some (.int s7.1), some (.int s7.2.1)] [] s7.2.2 0 0 := fun _ h => h
  have hX : ∀ x7s : Int32 × ea_M, (Sum.elim (fun s7 : Int32 × Int32 × ea_M => ea_Ev G F_X12_notGood res 7 [some (.ref 272), some (.int p1), some (.int p2), some (.int s7.1), some (.int s7.2.1)] [] s7.2.2 0 0) Ψ) (.inr x7s) → ea_Ev G F_X12_notGood res 29 [none, none, none, some (.int x7s.1), none] [] x7s.2 0 0 := hX
  unfold f_X12_notGood_s7
  refine ev_iload (ea_at dt_X12_notGood 4 rfl) rfl ?_
  refine ev_iload_n (ea_at dt_X12_notGood 5 rfl) rfl ?_
  refine ev_icmp_gt (tgt := 29) (ea_at dt_X12_notGood 6 rfl) rfl (fun _ => ?_) (fun _ => ?_)
  · exact ev_leaf (fun h => ea_drop (l' := [none, none, none, some (.int s7.1), none]) ⟨Or.inl rfl, Or.inl rfl, Or.inl rfl, Or.inr rfl, Or.inl rfl, trivial⟩ (hX (s7.1, s7.2.2) h))
  · refine ev_iload_n (ea_at dt_X12_notGood 7 rfl) rfl ?_
    refine ev_aload_n (ea_at dt_X12_notGood 8 rfl) rfl ?_
    refine ev_iload_n (ea_at dt_X12_notGood 9 rfl) rfl ?_
    refine ev_iload (ea_at dt_X12_notGood 10 rfl) rfl ?_
    refine ev_clI (F1 := F_X12_goodOf) (fun rY mY hY => ea_runV (As := [.int p1, .int s7.2.1]) (ea_at dt_X12_notGood 11 rfl) ml_X12_372 mv_X12_goodOf (ok_X12_goodOf G p1 s7.2.1 s7.2.2  rY mY hY) sh_272 rfl rfl rfl (Nat.le_of_ble_eq_true rfl) rfl) rfl (fun r2 m1 => ?_)
    refine ev_isub (ea_at dt_X12_notGood 12 rfl) ?_
    refine ev_i (fun x3 => ?_)
    refine ev_istore_n (ls' := [some (.ref 272), some (.int p1), some (.int p2), some (.int x3), some (.int s7.2.1)]) (ea_at dt_X12_notGood 13 rfl) (ea_lt rfl) rfl ?_
    refine ev_iinc (ls' := [some (.ref 272), some (.int p1), some (.int p2), some (.int x3), some (.int (s7.2.1 + 1))]) (ea_at dt_X12_notGood 14 rfl) rfl (congrArg (fun z => _ + z) ic_1) (ea_lt rfl) rfl ?_
    refine ev_goto (tgt := 7) (ea_at dt_X12_notGood 15 rfl) rfl ?_
    exact ev_leaf (fun h => ea_drop (l' := [some (.ref 272), some (.int p1), some (.int p2), some (.int x3), some (.int (s7.2.1 + 1))]) ⟨Or.inr rfl, Or.inr rfl, Or.inr rfl, Or.inr rfl, Or.inr rfl, trivial⟩ (hC (x3, s7.2.1 + 1, m1) h))
set_option maxHeartbeats 300000 in
theorem ok_X12_notGood (G : ea_G) (p1 : Int32) (p2 : Int32) (m : ea_M)  (rZ : Int32) (mZ : ea_M) (hZ : f_X12_notGood p1 p2 m = some (rZ, mZ)) : ea_Met G yX12_notGood F_X12_notGood [.ref 272, .int p1, .int p2] m (0, rZ, mZ) := by
  refine ea_met (F := F_X12_notGood) (by decide +kernel) rfl rfl (Nat.le_of_ble_eq_true rfl) (by simp only [List.mem_cons, List.not_mem_nil, or_false]; intro v hv; rcases hv with rfl | rfl | rfl <;> rfl) ((?_ : ea_E G F_X12_notGood (0, rZ, mZ) 0 [some (.ref 272), some (.int p1), some (.int p2), none, none] [] m 0 0 (f_X12_notGood p1 p2 m) (fun t => t = (rZ, mZ))) (rZ, mZ) hZ rfl)
  have hR : ∀ t : Int32 × ea_M, t = (rZ, mZ) → ((0, rZ, mZ) : ea_O) = (0, t) := fun t h => by rw [h]
  unfold f_X12_notGood
  refine ev_sipush (ea_at dt_X12_notGood 0 rfl) sp_6561 ?_
  refine ev_istore_n (ls' := [some (.ref 272), some (.int p1), some (.int p2), some (.int 6561), none]) (ea_at dt_X12_notGood 1 rfl) (ea_lt rfl) rfl ?_
  refine ev_iconst (ea_at dt_X12_notGood 2 rfl) ic_1 ?_
  refine ev_istore (ls' := [some (.ref 272), some (.int p1), some (.int p2), some (.int 6561), some (.int 1)]) (ea_at dt_X12_notGood 3 rfl) (ea_lt rfl) rfl ?_
  refine ev_drop (l' := [some (.ref 272), some (.int p1), some (.int p2), some (.int 6561), some (.int 1)]) ⟨Or.inr rfl, Or.inr rfl, Or.inr rfl, Or.inr rfl, Or.inr rfl, trivial⟩ ?_
  refine ev_bind (lp_X12_notGood_7 G p1 p2   (fun x7s h => ?_) ea_fuel (6561, 1, m))
  obtain ⟨t1, e1, q1⟩ := h
  refine (?_ : ea_E G F_X12_notGood (0, rZ, mZ) 29 [none, none, none, some (.int x7s.1), none] [] x7s.2 0 0 _ (fun t => t = (rZ, mZ))) t1 e1 q1
  refine ev_iload_n (ea_at dt_X12_notGood 16 rfl) rfl ?_
  exact ev_iret (ea_at dt_X12_notGood 17 rfl) rfl ⟨by decide, by decide⟩ (fun h => hR _ h)
def F_X12_firstHas : ea_F := (ea_rm 10 0 0, cX12_firstHas, RX12, some .int, 5, [], 0, 0)
def D_X12_firstHas : List (Nat × Instr × Nat) := [(0, .iconst 0, 1), (1, .istore_n 3, 1), (2, .iconst 1, 1), (3, .istore 4, 2), (5, .iload 4, 2), (7, .bipush 8, 2), (9, .if_icmp .gt 27, 3), (12, .iload_n 3, 1), (13, .aload_n 0, 1), (14, .iload_n 1, 1), (15, .iload 4, 2), (17, .invokevirtual 372, 3), (20, .aload_n 0, 1), (21, .iload_n 2, 1), (22, .iload 4, 2), (24, .invokevirtual 375, 3), (27, .imul, 1), (28, .iadd, 1), (29, .istore_n 3, 1), (30, .iinc 4 1, 3), (33, .goto (-28), 3), (36, .iload_n 3, 1), (37, .ireturn, 1)]
theorem dt_X12_firstHas : ∀ q ∈ D_X12_firstHas, decode cX12_firstHas q.1 = .ok q.2 := by decide +kernel
theorem mv_X12_firstHas : ea_MV yX12_firstHas (F_X12_firstHas) 2 := ⟨⟨List.mem_append_right _ (List.mem_of_getElem? (i := 13) (by decide +kernel)), List.mem_append_right _ (List.mem_of_getElem? (i := 1827) (by decide +kernel)), ⟨by decide, by decide⟩, by decide +kernel⟩, List.mem_append_right _ (List.mem_of_getElem? (i := 1826) (by decide +kernel)), List.mem_append_left _ (List.mem_of_getElem? (i := 94) (by decide +kernel))⟩
def f_X12_firstHas_s5 (p1 : Int32) (p2 : Int32)  (s5 : Int32 × Int32 × ea_M) : Option ((Int32 × Int32 × ea_M) ⊕ (Int32 × ea_M)) :=
  if 8 < s5.2.1 then
  some (.inr (s5.1, s5.2.2))
  else
  ea_cl (f_X12_goodOf p1 s5.2.1 s5.2.2) fun r2 m1 =>
  ea_cl (f_X12_notGood p2 s5.2.1 m1) fun r4 m3 =>
  ea_bd (s5.1 + (r2 * r4)) fun x5 =>
  some (.inl (x5, s5.2.1 + 1, m3))
def f_X12_firstHas (p1 : Int32) (p2 : Int32) (m : ea_M) : Option (Int32 × ea_M) :=
  (ea_loop (f_X12_firstHas_s5 p1 p2) ea_fuel (0, 1, m)).bind (fun x5s =>
  some (x5s.1, x5s.2))
set_option maxHeartbeats 300000 in
theorem lp_X12_firstHas_5 (G : ea_G) {res : ea_O}  (p1 : Int32) (p2 : Int32)  {Ψ : (Int32 × ea_M) → Prop} (hX : ∀ x5s : Int32 × ea_M, Ψ x5s → ea_Ev G F_X12_firstHas res 36 [none, none, none, some (.int x5s.1), none] [] x5s.2 0 0) : ∀ (f : Nat) (s5 : Int32 × Int32 × ea_M), ea_E G F_X12_firstHas res 5 [some (.ref 272), some (.int p1), some (.int p2), some (.int s5.1), some (.int s5.2.1)] [] s5.2.2 0 0 (ea_loop (f_X12_firstHas_s5 p1 p2) f s5) Ψ := by
  refine ev_loop (G := G) (F := F_X12_firstHas) (res := res) (pc := 5) (st := []) (k := 0) (n := 0) (step := (f_X12_firstHas_s5 p1 p2)) (Ψ := Ψ) (fun (s5 : Int32 × Int32 × ea_M) => [some (.ref 272), some (.int p1), some (.int p2), some (.int s5.1), some (.int s5.2.1)]) (fun (s5 : Int32 × Int32 × ea_M) => s5.2.2) (fun s5 => ?_)
  have hC : ∀ s5 : Int32 × Int32 × ea_M, (Sum.elim (fun s5 : Int32 × Int32 × ea_M => ea_Ev G F_X12_firstHas res 5 [some (.ref 272), some (.int p1), some (.int p2), some (.int s5.1), some (.int s5.2.1)] [] s5.2.2 0 0) Ψ) (.inl s5) → ea_Ev G F_X12_firstHas res 5 [some (.ref 272), some (.int p1), some (.int p2), some (.int s5.1), some (.int s5.2.1)] [] s5.2.2 0 0 := fun _ h => h
  have hX : ∀ x5s : Int32 × ea_M, (Sum.elim (fun s5 : Int32 × Int32 × ea_M => ea_Ev G F_X12_firstHas res 5 [some (.ref 272), some (.int p1), some (.int p2), some (.int s5.1), some (.int s5.2.1)] [] s5.2.2 0 0) Ψ) (.inr x5s) → ea_Ev G F_X12_firstHas res 36 [none, none, none, some (.int x5s.1), none] [] x5s.2 0 0 := hX
  unfold f_X12_firstHas_s5
  refine ev_iload (ea_at dt_X12_firstHas 4 rfl) rfl ?_
  refine ev_bipush (ea_at dt_X12_firstHas 5 rfl) bp_8 ?_
  refine ev_icmp_gt (tgt := 36) (ea_at dt_X12_firstHas 6 rfl) rfl (fun _ => ?_) (fun _ => ?_)
  · exact ev_leaf (fun h => ea_drop (l' := [none, none, none, some (.int s5.1), none]) ⟨Or.inl rfl, Or.inl rfl, Or.inl rfl, Or.inr rfl, Or.inl rfl, trivial⟩ (hX (s5.1, s5.2.2) h))
  · refine ev_iload_n (ea_at dt_X12_firstHas 7 rfl) rfl ?_
    refine ev_aload_n (ea_at dt_X12_firstHas 8 rfl) rfl ?_
    refine ev_iload_n (ea_at dt_X12_firstHas 9 rfl) rfl ?_
    refine ev_iload (ea_at dt_X12_firstHas 10 rfl) rfl ?_
    refine ev_clI (F1 := F_X12_goodOf) (fun rY mY hY => ea_runV (As := [.int p1, .int s5.2.1]) (ea_at dt_X12_firstHas 11 rfl) ml_X12_372 mv_X12_goodOf (ok_X12_goodOf G p1 s5.2.1 s5.2.2  rY mY hY) sh_272 rfl rfl rfl (Nat.le_of_ble_eq_true rfl) rfl) rfl (fun r2 m1 => ?_)
    refine ev_aload_n (ea_at dt_X12_firstHas 12 rfl) rfl ?_
    refine ev_iload_n (ea_at dt_X12_firstHas 13 rfl) rfl ?_
    refine ev_iload (ea_at dt_X12_firstHas 14 rfl) rfl ?_
    refine ev_clI (F1 := F_X12_notGood) (fun rY mY hY => ea_runV (As := [.int p2, .int s5.2.1]) (ea_at dt_X12_firstHas 15 rfl) ml_X12_375 mv_X12_notGood (ok_X12_notGood G p2 s5.2.1 m1  rY mY hY) sh_272 rfl rfl rfl (Nat.le_of_ble_eq_true rfl) rfl) rfl (fun r4 m3 => ?_)
    refine ev_imul (ea_at dt_X12_firstHas 16 rfl) ?_
    refine ev_iadd (ea_at dt_X12_firstHas 17 rfl) ?_
    refine ev_i (fun x5 => ?_)
    refine ev_istore_n (ls' := [some (.ref 272), some (.int p1), some (.int p2), some (.int x5), some (.int s5.2.1)]) (ea_at dt_X12_firstHas 18 rfl) (ea_lt rfl) rfl ?_
    refine ev_iinc (ls' := [some (.ref 272), some (.int p1), some (.int p2), some (.int x5), some (.int (s5.2.1 + 1))]) (ea_at dt_X12_firstHas 19 rfl) rfl (congrArg (fun z => _ + z) ic_1) (ea_lt rfl) rfl ?_
    refine ev_goto (tgt := 5) (ea_at dt_X12_firstHas 20 rfl) rfl ?_
    exact ev_leaf (fun h => ea_drop (l' := [some (.ref 272), some (.int p1), some (.int p2), some (.int x5), some (.int (s5.2.1 + 1))]) ⟨Or.inr rfl, Or.inr rfl, Or.inr rfl, Or.inr rfl, Or.inr rfl, trivial⟩ (hC (x5, s5.2.1 + 1, m3) h))
set_option maxHeartbeats 300000 in
theorem ok_X12_firstHas (G : ea_G) (p1 : Int32) (p2 : Int32) (m : ea_M)  (rZ : Int32) (mZ : ea_M) (hZ : f_X12_firstHas p1 p2 m = some (rZ, mZ)) : ea_Met G yX12_firstHas F_X12_firstHas [.ref 272, .int p1, .int p2] m (0, rZ, mZ) := by
  refine ea_met (F := F_X12_firstHas) (by decide +kernel) rfl rfl (Nat.le_of_ble_eq_true rfl) (by simp only [List.mem_cons, List.not_mem_nil, or_false]; intro v hv; rcases hv with rfl | rfl | rfl <;> rfl) ((?_ : ea_E G F_X12_firstHas (0, rZ, mZ) 0 [some (.ref 272), some (.int p1), some (.int p2), none, none] [] m 0 0 (f_X12_firstHas p1 p2 m) (fun t => t = (rZ, mZ))) (rZ, mZ) hZ rfl)
  have hR : ∀ t : Int32 × ea_M, t = (rZ, mZ) → ((0, rZ, mZ) : ea_O) = (0, t) := fun t h => by rw [h]
  unfold f_X12_firstHas
  refine ev_iconst (ea_at dt_X12_firstHas 0 rfl) ic_0 ?_
  refine ev_istore_n (ls' := [some (.ref 272), some (.int p1), some (.int p2), some (.int 0), none]) (ea_at dt_X12_firstHas 1 rfl) (ea_lt rfl) rfl ?_
  refine ev_iconst (ea_at dt_X12_firstHas 2 rfl) ic_1 ?_
  refine ev_istore (ls' := [some (.ref 272), some (.int p1), some (.int p2), some (.int 0), some (.int 1)]) (ea_at dt_X12_firstHas 3 rfl) (ea_lt rfl) rfl ?_
  refine ev_drop (l' := [some (.ref 272), some (.int p1), some (.int p2), some (.int 0), some (.int 1)]) ⟨Or.inr rfl, Or.inr rfl, Or.inr rfl, Or.inr rfl, Or.inr rfl, trivial⟩ ?_
  refine ev_bind (lp_X12_firstHas_5 G p1 p2   (fun x5s h => ?_) ea_fuel (0, 1, m))
  obtain ⟨t1, e1, q1⟩ := h
  refine (?_ : ea_E G F_X12_firstHas (0, rZ, mZ) 36 [none, none, none, some (.int x5s.1), none] [] x5s.2 0 0 _ (fun t => t = (rZ, mZ))) t1 e1 q1
  refine ev_iload_n (ea_at dt_X12_firstHas 21 rfl) rfl ?_
  exact ev_iret (ea_at dt_X12_firstHas 22 rfl) rfl ⟨by decide, by decide⟩ (fun h => hR _ h)
def F_X12_bothHave : ea_F := (ea_rm 9 0 0, cX12_bothHave, RX12, some .int, 5, [], 0, 0)
def D_X12_bothHave : List (Nat × Instr × Nat) := [(0, .iconst 0, 1), (1, .istore_n 3, 1), (2, .iconst 1, 1), (3, .istore 4, 2), (5, .iload 4, 2), (7, .bipush 8, 2), (9, .if_icmp .gt 27, 3), (12, .iload_n 3, 1), (13, .aload_n 0, 1), (14, .iload_n 1, 1), (15, .iload 4, 2), (17, .invokevirtual 372, 3), (20, .aload_n 0, 1), (21, .iload_n 2, 1), (22, .iload 4, 2), (24, .invokevirtual 372, 3), (27, .imul, 1), (28, .iadd, 1), (29, .istore_n 3, 1), (30, .iinc 4 1, 3), (33, .goto (-28), 3), (36, .iload_n 3, 1), (37, .ireturn, 1)]
theorem dt_X12_bothHave : ∀ q ∈ D_X12_bothHave, decode cX12_bothHave q.1 = .ok q.2 := by decide +kernel
theorem mv_X12_bothHave : ea_MV yX12_bothHave (F_X12_bothHave) 2 := ⟨⟨List.mem_append_right _ (List.mem_of_getElem? (i := 13) (by decide +kernel)), List.mem_append_right _ (List.mem_of_getElem? (i := 1839) (by decide +kernel)), ⟨by decide, by decide⟩, by decide +kernel⟩, List.mem_append_right _ (List.mem_of_getElem? (i := 1838) (by decide +kernel)), List.mem_append_left _ (List.mem_of_getElem? (i := 97) (by decide +kernel))⟩
def f_X12_bothHave_s5 (p1 : Int32) (p2 : Int32)  (s5 : Int32 × Int32 × ea_M) : Option ((Int32 × Int32 × ea_M) ⊕ (Int32 × ea_M)) :=
  if 8 < s5.2.1 then
  some (.inr (s5.1, s5.2.2))
  else
  ea_cl (f_X12_goodOf p1 s5.2.1 s5.2.2) fun r2 m1 =>
  ea_cl (f_X12_goodOf p2 s5.2.1 m1) fun r4 m3 =>
  ea_bd (s5.1 + (r2 * r4)) fun x5 =>
  some (.inl (x5, s5.2.1 + 1, m3))
def f_X12_bothHave (p1 : Int32) (p2 : Int32) (m : ea_M) : Option (Int32 × ea_M) :=
  (ea_loop (f_X12_bothHave_s5 p1 p2) ea_fuel (0, 1, m)).bind (fun x5s =>
  some (x5s.1, x5s.2))
set_option maxHeartbeats 300000 in
theorem lp_X12_bothHave_5 (G : ea_G) {res : ea_O}  (p1 : Int32) (p2 : Int32)  {Ψ : (Int32 × ea_M) → Prop} (hX : ∀ x5s : Int32 × ea_M, Ψ x5s → ea_Ev G F_X12_bothHave res 36 [none, none, none, some (.int x5s.1), none] [] x5s.2 0 0) : ∀ (f : Nat) (s5 : Int32 × Int32 × ea_M), ea_E G F_X12_bothHave res 5 [some (.ref 272), some (.int p1), some (.int p2), some (.int s5.1), some (.int s5.2.1)] [] s5.2.2 0 0 (ea_loop (f_X12_bothHave_s5 p1 p2) f s5) Ψ := by
  refine ev_loop (G := G) (F := F_X12_bothHave) (res := res) (pc := 5) (st := []) (k := 0) (n := 0) (step := (f_X12_bothHave_s5 p1 p2)) (Ψ := Ψ) (fun (s5 : Int32 × Int32 × ea_M) => [some (.ref 272), some (.int p1), some (.int p2), some (.int s5.1), some (.int s5.2.1)]) (fun (s5 : Int32 × Int32 × ea_M) => s5.2.2) (fun s5 => ?_)
  have hC : ∀ s5 : Int32 × Int32 × ea_M, (Sum.elim (fun s5 : Int32 × Int32 × ea_M => ea_Ev G F_X12_bothHave res 5 [some (.ref 272), some (.int p1), some (.int p2), some (.int s5.1), some (.int s5.2.1)] [] s5.2.2 0 0) Ψ) (.inl s5) → ea_Ev G F_X12_bothHave res 5 [some (.ref 272), some (.int p1), some (.int p2), some (.int s5.1), some (.int s5.2.1)] [] s5.2.2 0 0 := fun _ h => h
  have hX : ∀ x5s : Int32 × ea_M, (Sum.elim (fun s5 : Int32 × Int32 × ea_M => ea_Ev G F_X12_bothHave res 5 [some (.ref 272), some (.int p1), some (.int p2), some (.int s5.1), some (.int s5.2.1)] [] s5.2.2 0 0) Ψ) (.inr x5s) → ea_Ev G F_X12_bothHave res 36 [none, none, none, some (.int x5s.1), none] [] x5s.2 0 0 := hX
  unfold f_X12_bothHave_s5
  refine ev_iload (ea_at dt_X12_bothHave 4 rfl) rfl ?_
  refine ev_bipush (ea_at dt_X12_bothHave 5 rfl) bp_8 ?_
  refine ev_icmp_gt (tgt := 36) (ea_at dt_X12_bothHave 6 rfl) rfl (fun _ => ?_) (fun _ => ?_)
  · exact ev_leaf (fun h => ea_drop (l' := [none, none, none, some (.int s5.1), none]) ⟨Or.inl rfl, Or.inl rfl, Or.inl rfl, Or.inr rfl, Or.inl rfl, trivial⟩ (hX (s5.1, s5.2.2) h))
  · refine ev_iload_n (ea_at dt_X12_bothHave 7 rfl) rfl ?_
    refine ev_aload_n (ea_at dt_X12_bothHave 8 rfl) rfl ?_
    refine ev_iload_n (ea_at dt_X12_bothHave 9 rfl) rfl ?_
    refine ev_iload (ea_at dt_X12_bothHave 10 rfl) rfl ?_
    refine ev_clI (F1 := F_X12_goodOf) (fun rY mY hY => ea_runV (As := [.int p1, .int s5.2.1]) (ea_at dt_X12_bothHave 11 rfl) ml_X12_372 mv_X12_goodOf (ok_X12_goodOf G p1 s5.2.1 s5.2.2  rY mY hY) sh_272 rfl rfl rfl (Nat.le_of_ble_eq_true rfl) rfl) rfl (fun r2 m1 => ?_)
    refine ev_aload_n (ea_at dt_X12_bothHave 12 rfl) rfl ?_
    refine ev_iload_n (ea_at dt_X12_bothHave 13 rfl) rfl ?_
    refine ev_iload (ea_at dt_X12_bothHave 14 rfl) rfl ?_
    refine ev_clI (F1 := F_X12_goodOf) (fun rY mY hY => ea_runV (As := [.int p2, .int s5.2.1]) (ea_at dt_X12_bothHave 15 rfl) ml_X12_372 mv_X12_goodOf (ok_X12_goodOf G p2 s5.2.1 m1  rY mY hY) sh_272 rfl rfl rfl (Nat.le_of_ble_eq_true rfl) rfl) rfl (fun r4 m3 => ?_)
    refine ev_imul (ea_at dt_X12_bothHave 16 rfl) ?_
    refine ev_iadd (ea_at dt_X12_bothHave 17 rfl) ?_
    refine ev_i (fun x5 => ?_)
    refine ev_istore_n (ls' := [some (.ref 272), some (.int p1), some (.int p2), some (.int x5), some (.int s5.2.1)]) (ea_at dt_X12_bothHave 18 rfl) (ea_lt rfl) rfl ?_
    refine ev_iinc (ls' := [some (.ref 272), some (.int p1), some (.int p2), some (.int x5), some (.int (s5.2.1 + 1))]) (ea_at dt_X12_bothHave 19 rfl) rfl (congrArg (fun z => _ + z) ic_1) (ea_lt rfl) rfl ?_
    refine ev_goto (tgt := 5) (ea_at dt_X12_bothHave 20 rfl) rfl ?_
    exact ev_leaf (fun h => ea_drop (l' := [some (.ref 272), some (.int p1), some (.int p2), some (.int x5), some (.int (s5.2.1 + 1))]) ⟨Or.inr rfl, Or.inr rfl, Or.inr rfl, Or.inr rfl, Or.inr rfl, trivial⟩ (hC (x5, s5.2.1 + 1, m3) h))
set_option maxHeartbeats 300000 in
theorem ok_X12_bothHave (G : ea_G) (p1 : Int32) (p2 : Int32) (m : ea_M)  (rZ : Int32) (mZ : ea_M) (hZ : f_X12_bothHave p1 p2 m = some (rZ, mZ)) : ea_Met G yX12_bothHave F_X12_bothHave [.ref 272, .int p1, .int p2] m (0, rZ, mZ) := by
  refine ea_met (F := F_X12_bothHave) (by decide +kernel) rfl rfl (Nat.le_of_ble_eq_true rfl) (by simp only [List.mem_cons, List.not_mem_nil, or_false]; intro v hv; rcases hv with rfl | rfl | rfl <;> rfl) ((?_ : ea_E G F_X12_bothHave (0, rZ, mZ) 0 [some (.ref 272), some (.int p1), some (.int p2), none, none] [] m 0 0 (f_X12_bothHave p1 p2 m) (fun t => t = (rZ, mZ))) (rZ, mZ) hZ rfl)
  have hR : ∀ t : Int32 × ea_M, t = (rZ, mZ) → ((0, rZ, mZ) : ea_O) = (0, t) := fun t h => by rw [h]
  unfold f_X12_bothHave
  refine ev_iconst (ea_at dt_X12_bothHave 0 rfl) ic_0 ?_
  refine ev_istore_n (ls' := [some (.ref 272), some (.int p1), some (.int p2), some (.int 0), none]) (ea_at dt_X12_bothHave 1 rfl) (ea_lt rfl) rfl ?_
  refine ev_iconst (ea_at dt_X12_bothHave 2 rfl) ic_1 ?_
  refine ev_istore (ls' := [some (.ref 272), some (.int p1), some (.int p2), some (.int 0), some (.int 1)]) (ea_at dt_X12_bothHave 3 rfl) (ea_lt rfl) rfl ?_
  refine ev_drop (l' := [some (.ref 272), some (.int p1), some (.int p2), some (.int 0), some (.int 1)]) ⟨Or.inr rfl, Or.inr rfl, Or.inr rfl, Or.inr rfl, Or.inr rfl, trivial⟩ ?_
  refine ev_bind (lp_X12_bothHave_5 G p1 p2   (fun x5s h => ?_) ea_fuel (0, 1, m))
  obtain ⟨t1, e1, q1⟩ := h
  refine (?_ : ea_E G F_X12_bothHave (0, rZ, mZ) 36 [none, none, none, some (.int x5s.1), none] [] x5s.2 0 0 _ (fun t => t = (rZ, mZ))) t1 e1 q1
  refine ev_iload_n (ea_at dt_X12_bothHave 21 rfl) rfl ?_
  exact ev_iret (ea_at dt_X12_bothHave 22 rfl) rfl ⟨by decide, by decide⟩ (fun h => hR _ h)
def F_X12_odds : ea_F := (ea_rm 18 0 0, cX12_odds, RX12, some .int, 4, [], 0, 0)
def D_X12_odds : List (Nat × Instr × Nat) := [(0, .aload_n 0, 1), (1, .iconst 0, 1), (2, .putfield 3, 3), (5, .aload_n 0, 1), (6, .aload_n 0, 1), (7, .iload_n 1, 1), (8, .invokevirtual 303, 3), (11, .ifCond .ne 11, 3), (14, .aload_n 0, 1), (15, .iload_n 2, 1), (16, .invokevirtual 303, 3), (19, .ifCond .eq 7, 3), (22, .iconst 1, 1), (23, .goto 4, 3), (26, .iconst 0, 1), (27, .iconst 1, 1), (28, .invokevirtual 265, 3), (31, .ifCond .ne 25, 3), (34, .aload_n 0, 1), (35, .iload_n 3, 1), (36, .iconst 0, 1), (37, .iconst 3, 1), (38, .invokestatic 78, 3), (41, .ifCond .ne 7, 3), (44, .iconst 1, 1), (45, .goto 4, 3), (48, .iconst 0, 1), (49, .iconst 2, 1), (50, .invokevirtual 265, 3), (53, .ifCond .eq 5, 3), (56, .iconst 0, 1), (57, .ireturn, 1), (58, .aload_n 0, 1), (59, .invokevirtual 378, 3), (62, .iload_n 3, 1), (63, .ifCond .ne 12, 3), (66, .aload_n 0, 1), (67, .iload_n 1, 1), (68, .iload_n 2, 1), (69, .invokevirtual 381, 3), (72, .goto 46, 3), (75, .iload_n 3, 1), (76, .iconst 1, 1), (77, .if_icmp .ne 12, 3), (80, .aload_n 0, 1), (81, .iload_n 2, 1), (82, .iload_n 1, 1), (83, .invokevirtual 381, 3), (86, .goto 32, 3), (89, .iload_n 3, 1), (90, .iconst 2, 1), (91, .if_icmp .ne 12, 3), (94, .aload_n 0, 1), (95, .iload_n 1, 1), (96, .iload_n 2, 1), (97, .invokevirtual 384, 3), (100, .goto 18, 3), (103, .aload_n 0, 1), (104, .iload_n 1, 1), (105, .bipush 8, 2), (107, .invokevirtual 375, 3), (110, .aload_n 0, 1), (111, .iload_n 2, 1), (112, .bipush 8, 2), (114, .invokevirtual 375, 3), (117, .imul, 1), (118, .ireturn, 1)]
theorem dt_X12_odds : ∀ q ∈ D_X12_odds, decode cX12_odds q.1 = .ok q.2 := by decide +kernel
theorem mv_X12_odds : ea_MV yX12_odds (F_X12_odds) 3 := ⟨⟨List.mem_append_right _ (List.mem_of_getElem? (i := 13) (by decide +kernel)), List.mem_append_right _ (List.mem_of_getElem? (i := 1815) (by decide +kernel)), ⟨by decide, by decide⟩, by decide +kernel⟩, List.mem_append_right _ (List.mem_of_getElem? (i := 1813) (by decide +kernel)), List.mem_append_right _ (List.mem_of_getElem? (i := 1814) (by decide +kernel))⟩
def f_X12_odds_j49 (p1 : Int32) (p2 : Int32) (p3 : Int32) (x12 : Int32) (m13 : ea_M) : Option (Int32 × ea_M) :=
  ea_cl (f_X12_throwsIf x12 2 m13) fun r15 m14 =>
  if r15 = 0 then
  ea_cl (f_X12_laysAllGoods m14) fun r17 m16 =>
  if p3 = 0 then
  ea_cl (f_X12_firstHas p1 p2 m16) fun r19 m18 =>
  some (r19, m18)
  else
  if p3 = 1 then
  ea_cl (f_X12_firstHas p2 p1 m16) fun r21 m20 =>
  some (r21, m20)
  else
  if p3 = 2 then
  ea_cl (f_X12_bothHave p1 p2 m16) fun r23 m22 =>
  some (r23, m22)
  else
  ea_cl (f_X12_notGood p1 8 m16) fun r25 m24 =>
  ea_cl (f_X12_notGood p2 8 m24) fun r27 m26 =>
  some (r25 * r27, m26)
  else
  some (0, m14)
def f_X12_odds_j27 (p1 : Int32) (p2 : Int32) (p3 : Int32) (x6 : Int32) (m7 : ea_M) : Option (Int32 × ea_M) :=
  ea_cl (f_X12_throwsIf x6 1 m7) fun r9 m8 =>
  if r9 = 0 then
  ea_cl (f_X12_in p3 0 3 m8) fun r11 m10 =>
  if r11 = 0 then
  f_X12_odds_j49 p1 p2 p3 1 m10
  else
  f_X12_odds_j49 p1 p2 p3 0 m10
  else
  some (0, m8)
def f_X12_odds_j22 (p1 : Int32) (p2 : Int32) (p3 : Int32) (m28 : ea_M) : Option (Int32 × ea_M) :=
  f_X12_odds_j27 p1 p2 p3 1 m28
def f_X12_odds (p1 : Int32) (p2 : Int32) (p3 : Int32) (m : ea_M) : Option (Int32 × ea_M) :=
  ea_bd (ea_st m 272 0 0) fun m1 =>
  ea_cl (f_X12_noBird p1 m1) fun r3 m2 =>
  if r3 = 0 then
  ea_cl (f_X12_noBird p2 m2) fun r5 m4 =>
  if r5 = 0 then
  f_X12_odds_j27 p1 p2 p3 0 m4
  else
  f_X12_odds_j22 p1 p2 p3 m4
  else
  f_X12_odds_j22 p1 p2 p3 m2
set_option maxHeartbeats 300000 in
theorem jn_X12_odds_49 (G : ea_G) {res : ea_O}  (p1 : Int32) (p2 : Int32) (p3 : Int32) (x12 : Int32) (m13 : ea_M)  {Φ : (Int32 × ea_M) → Prop} (hR : ∀ t : Int32 × ea_M, Φ t → res = (0, t)) : ea_E G F_X12_odds res 49 [some (.ref 272), some (.int p1), some (.int p2), some (.int p3)] [.int x12, .ref 272] m13 0 0 (f_X12_odds_j49 p1 p2 p3 x12 m13) Φ := by
  unfold f_X12_odds_j49
  refine ev_iconst (ea_at dt_X12_odds 27 rfl) ic_2 ?_
  refine ev_clI (F1 := F_X12_throwsIf) (fun rY mY hY => ea_runV (As := [.int x12, .int 2]) (ea_at dt_X12_odds 28 rfl) ml_X12_265 mv_X12_throwsIf (ok_X12_throwsIf G x12 2 m13  rY mY hY) sh_272 rfl rfl rfl (Nat.le_of_ble_eq_true rfl) rfl) rfl (fun r15 m14 => ?_)
  refine ev_if_eq (tgt := 58) (ea_at dt_X12_odds 29 rfl) rfl (fun _ => ?_) (fun _ => ?_)
  · refine ev_aload_n (ea_at dt_X12_odds 32 rfl) rfl ?_
    refine ev_clU (F1 := F_X12_laysAllGoods) (fun rY mY hY => ea_runV (As := []) (ea_at dt_X12_odds 33 rfl) ml_X12_378 mv_X12_laysAllGoods (ok_X12_laysAllGoods G m14  rY mY hY) sh_272 rfl rfl rfl (Nat.le_of_ble_eq_true rfl) rfl) rfl (fun r17 m16 => ?_)
    refine ev_iload_n (ea_at dt_X12_odds 34 rfl) rfl ?_
    refine ev_if_ne (tgt := 75) (ea_at dt_X12_odds 35 rfl) rfl (fun _ => ?_) (fun _ => ?_)
    · refine ev_aload_n (ea_at dt_X12_odds 36 rfl) rfl ?_
      refine ev_iload_n (ea_at dt_X12_odds 37 rfl) rfl ?_
      refine ev_iload_n (ea_at dt_X12_odds 38 rfl) rfl ?_
      refine ev_clI (F1 := F_X12_firstHas) (fun rY mY hY => ea_runV (As := [.int p1, .int p2]) (ea_at dt_X12_odds 39 rfl) ml_X12_381 mv_X12_firstHas (ok_X12_firstHas G p1 p2 m16  rY mY hY) sh_272 rfl rfl rfl (Nat.le_of_ble_eq_true rfl) rfl) rfl (fun r19 m18 => ?_)
      refine ev_goto (tgt := 118) (ea_at dt_X12_odds 40 rfl) rfl ?_
      exact ev_iret (ea_at dt_X12_odds 66 rfl) rfl ⟨by decide, by decide⟩ (fun h => hR _ h)
    · refine ev_iload_n (ea_at dt_X12_odds 41 rfl) rfl ?_
      refine ev_iconst (ea_at dt_X12_odds 42 rfl) ic_1 ?_
      refine ev_icmp_ne (tgt := 89) (ea_at dt_X12_odds 43 rfl) rfl (fun _ => ?_) (fun _ => ?_)
      · refine ev_aload_n (ea_at dt_X12_odds 44 rfl) rfl ?_
        refine ev_iload_n (ea_at dt_X12_odds 45 rfl) rfl ?_
        refine ev_iload_n (ea_at dt_X12_odds 46 rfl) rfl ?_
        refine ev_clI (F1 := F_X12_firstHas) (fun rY mY hY => ea_runV (As := [.int p2, .int p1]) (ea_at dt_X12_odds 47 rfl) ml_X12_381 mv_X12_firstHas (ok_X12_firstHas G p2 p1 m16  rY mY hY) sh_272 rfl rfl rfl (Nat.le_of_ble_eq_true rfl) rfl) rfl (fun r21 m20 => ?_)
        refine ev_goto (tgt := 118) (ea_at dt_X12_odds 48 rfl) rfl ?_
        exact ev_iret (ea_at dt_X12_odds 66 rfl) rfl ⟨by decide, by decide⟩ (fun h => hR _ h)
      · refine ev_iload_n (ea_at dt_X12_odds 49 rfl) rfl ?_
        refine ev_iconst (ea_at dt_X12_odds 50 rfl) ic_2 ?_
        refine ev_icmp_ne (tgt := 103) (ea_at dt_X12_odds 51 rfl) rfl (fun _ => ?_) (fun _ => ?_)
        · refine ev_aload_n (ea_at dt_X12_odds 52 rfl) rfl ?_
          refine ev_iload_n (ea_at dt_X12_odds 53 rfl) rfl ?_
          refine ev_iload_n (ea_at dt_X12_odds 54 rfl) rfl ?_
          refine ev_clI (F1 := F_X12_bothHave) (fun rY mY hY => ea_runV (As := [.int p1, .int p2]) (ea_at dt_X12_odds 55 rfl) ml_X12_384 mv_X12_bothHave (ok_X12_bothHave G p1 p2 m16  rY mY hY) sh_272 rfl rfl rfl (Nat.le_of_ble_eq_true rfl) rfl) rfl (fun r23 m22 => ?_)
          refine ev_goto (tgt := 118) (ea_at dt_X12_odds 56 rfl) rfl ?_
          exact ev_iret (ea_at dt_X12_odds 66 rfl) rfl ⟨by decide, by decide⟩ (fun h => hR _ h)
        · refine ev_aload_n (ea_at dt_X12_odds 57 rfl) rfl ?_
          refine ev_iload_n (ea_at dt_X12_odds 58 rfl) rfl ?_
          refine ev_bipush (ea_at dt_X12_odds 59 rfl) bp_8 ?_
          refine ev_clI (F1 := F_X12_notGood) (fun rY mY hY => ea_runV (As := [.int p1, .int 8]) (ea_at dt_X12_odds 60 rfl) ml_X12_375 mv_X12_notGood (ok_X12_notGood G p1 8 m16  rY mY hY) sh_272 rfl rfl rfl (Nat.le_of_ble_eq_true rfl) rfl) rfl (fun r25 m24 => ?_)
          refine ev_aload_n (ea_at dt_X12_odds 61 rfl) rfl ?_
          refine ev_iload_n (ea_at dt_X12_odds 62 rfl) rfl ?_
          refine ev_bipush (ea_at dt_X12_odds 63 rfl) bp_8 ?_
          refine ev_clI (F1 := F_X12_notGood) (fun rY mY hY => ea_runV (As := [.int p2, .int 8]) (ea_at dt_X12_odds 64 rfl) ml_X12_375 mv_X12_notGood (ok_X12_notGood G p2 8 m24  rY mY hY) sh_272 rfl rfl rfl (Nat.le_of_ble_eq_true rfl) rfl) rfl (fun r27 m26 => ?_)
          refine ev_imul (ea_at dt_X12_odds 65 rfl) ?_
          exact ev_iret (ea_at dt_X12_odds 66 rfl) rfl ⟨by decide, by decide⟩ (fun h => hR _ h)
  · refine ev_iconst (ea_at dt_X12_odds 30 rfl) ic_0 ?_
    exact ev_iret (ea_at dt_X12_odds 31 rfl) rfl ⟨by decide, by decide⟩ (fun h => hR _ h)
set_option maxHeartbeats 300000 in
theorem jn_X12_odds_27 (G : ea_G) {res : ea_O}  (p1 : Int32) (p2 : Int32) (p3 : Int32) (x6 : Int32) (m7 : ea_M)  {Φ : (Int32 × ea_M) → Prop} (hR : ∀ t : Int32 × ea_M, Φ t → res = (0, t)) : ea_E G F_X12_odds res 27 [some (.ref 272), some (.int p1), some (.int p2), some (.int p3)] [.int x6, .ref 272] m7 0 0 (f_X12_odds_j27 p1 p2 p3 x6 m7) Φ := by
  unfold f_X12_odds_j27
  refine ev_iconst (ea_at dt_X12_odds 15 rfl) ic_1 ?_
  refine ev_clI (F1 := F_X12_throwsIf) (fun rY mY hY => ea_runV (As := [.int x6, .int 1]) (ea_at dt_X12_odds 16 rfl) ml_X12_265 mv_X12_throwsIf (ok_X12_throwsIf G x6 1 m7  rY mY hY) sh_272 rfl rfl rfl (Nat.le_of_ble_eq_true rfl) rfl) rfl (fun r9 m8 => ?_)
  refine ev_if_ne (tgt := 56) (ea_at dt_X12_odds 17 rfl) rfl (fun _ => ?_) (fun _ => ?_)
  · refine ev_aload_n (ea_at dt_X12_odds 18 rfl) rfl ?_
    refine ev_iload_n (ea_at dt_X12_odds 19 rfl) rfl ?_
    refine ev_iconst (ea_at dt_X12_odds 20 rfl) ic_0 ?_
    refine ev_iconst (ea_at dt_X12_odds 21 rfl) ic_3 ?_
    refine ev_clI (F1 := F_X12_in) (fun rY mY hY => ea_runS (As := [.int p3, .int 0, .int 3]) (ea_at dt_X12_odds 22 rfl) ml_X12_78 mv_X12_in (ok_X12_in G p3 0 3 m8  rY mY hY) rfl rfl (Nat.le_of_ble_eq_true rfl) rfl) rfl (fun r11 m10 => ?_)
    refine ev_if_ne (tgt := 48) (ea_at dt_X12_odds 23 rfl) rfl (fun _ => ?_) (fun _ => ?_)
    · refine ev_iconst (ea_at dt_X12_odds 24 rfl) ic_1 ?_
      refine ev_goto (tgt := 49) (ea_at dt_X12_odds 25 rfl) rfl ?_
      exact ev_drop (l' := [some (.ref 272), some (.int p1), some (.int p2), some (.int p3)]) ⟨Or.inr rfl, Or.inr rfl, Or.inr rfl, Or.inr rfl, trivial⟩ (jn_X12_odds_49 G p1 p2 p3 1 m10  hR)
    · refine ev_iconst (ea_at dt_X12_odds 26 rfl) ic_0 ?_
      exact ev_drop (l' := [some (.ref 272), some (.int p1), some (.int p2), some (.int p3)]) ⟨Or.inr rfl, Or.inr rfl, Or.inr rfl, Or.inr rfl, trivial⟩ (jn_X12_odds_49 G p1 p2 p3 0 m10  hR)
  · refine ev_iconst (ea_at dt_X12_odds 30 rfl) ic_0 ?_
    exact ev_iret (ea_at dt_X12_odds 31 rfl) rfl ⟨by decide, by decide⟩ (fun h => hR _ h)
set_option maxHeartbeats 300000 in
theorem jn_X12_odds_22 (G : ea_G) {res : ea_O}  (p1 : Int32) (p2 : Int32) (p3 : Int32) (m28 : ea_M)  {Φ : (Int32 × ea_M) → Prop} (hR : ∀ t : Int32 × ea_M, Φ t → res = (0, t)) : ea_E G F_X12_odds res 22 [some (.ref 272), some (.int p1), some (.int p2), some (.int p3)] [.ref 272] m28 0 0 (f_X12_odds_j22 p1 p2 p3 m28) Φ := by
  unfold f_X12_odds_j22
  refine ev_iconst (ea_at dt_X12_odds 12 rfl) ic_1 ?_
  refine ev_goto (tgt := 27) (ea_at dt_X12_odds 13 rfl) rfl ?_
  exact ev_drop (l' := [some (.ref 272), some (.int p1), some (.int p2), some (.int p3)]) ⟨Or.inr rfl, Or.inr rfl, Or.inr rfl, Or.inr rfl, trivial⟩ (jn_X12_odds_27 G p1 p2 p3 1 m28  hR)
set_option maxHeartbeats 300000 in
theorem ok_X12_odds (G : ea_G) (p1 : Int32) (p2 : Int32) (p3 : Int32) (m : ea_M)  (rZ : Int32) (mZ : ea_M) (hZ : f_X12_odds p1 p2 p3 m = some (rZ, mZ)) : ea_Met G yX12_odds F_X12_odds [.ref 272, .int p1, .int p2, .int p3] m (0, rZ, mZ) := by
  refine ea_met (F := F_X12_odds) (by decide +kernel) rfl rfl (Nat.le_of_ble_eq_true rfl) (by simp only [List.mem_cons, List.not_mem_nil, or_false]; intro v hv; rcases hv with rfl | rfl | rfl | rfl <;> rfl) ((?_ : ea_E G F_X12_odds (0, rZ, mZ) 0 [some (.ref 272), some (.int p1), some (.int p2), some (.int p3)] [] m 0 0 (f_X12_odds p1 p2 p3 m) (fun t => t = (rZ, mZ))) (rZ, mZ) hZ rfl)
  have hR : ∀ t : Int32 × ea_M, t = (rZ, mZ) → ((0, rZ, mZ) : ea_O) = (0, t) := fun t h => by rw [h]
  unfold f_X12_odds
  refine ev_aload_n (ea_at dt_X12_odds 0 rfl) rfl ?_
  refine ev_iconst (ea_at dt_X12_odds 1 rfl) ic_0 ?_
  refine ev_putI (ea_at dt_X12_odds 2 rfl) fl_X12_3 fp_12_0 sh_272 rfl ?_
  refine ev_m (fun m1 => ?_)
  refine ev_aload_n (ea_at dt_X12_odds 3 rfl) rfl ?_
  refine ev_aload_n (ea_at dt_X12_odds 4 rfl) rfl ?_
  refine ev_iload_n (ea_at dt_X12_odds 5 rfl) rfl ?_
  refine ev_clI (F1 := F_X12_noBird) (fun rY mY hY => ea_runV (As := [.int p1]) (ea_at dt_X12_odds 6 rfl) ml_X12_303 mv_X12_noBird (ok_X12_noBird G p1 m1  rY mY hY) sh_272 rfl rfl rfl (Nat.le_of_ble_eq_true rfl) rfl) rfl (fun r3 m2 => ?_)
  refine ev_if_ne (tgt := 22) (ea_at dt_X12_odds 7 rfl) rfl (fun _ => ?_) (fun _ => ?_)
  · refine ev_aload_n (ea_at dt_X12_odds 8 rfl) rfl ?_
    refine ev_iload_n (ea_at dt_X12_odds 9 rfl) rfl ?_
    refine ev_clI (F1 := F_X12_noBird) (fun rY mY hY => ea_runV (As := [.int p2]) (ea_at dt_X12_odds 10 rfl) ml_X12_303 mv_X12_noBird (ok_X12_noBird G p2 m2  rY mY hY) sh_272 rfl rfl rfl (Nat.le_of_ble_eq_true rfl) rfl) rfl (fun r5 m4 => ?_)
    refine ev_if_eq (tgt := 26) (ea_at dt_X12_odds 11 rfl) rfl (fun _ => ?_) (fun _ => ?_)
    · refine ev_iconst (ea_at dt_X12_odds 14 rfl) ic_0 ?_
      exact ev_drop (l' := [some (.ref 272), some (.int p1), some (.int p2), some (.int p3)]) ⟨Or.inr rfl, Or.inr rfl, Or.inr rfl, Or.inr rfl, trivial⟩ (jn_X12_odds_27 G p1 p2 p3 0 m4  hR)
    · exact ev_drop (l' := [some (.ref 272), some (.int p1), some (.int p2), some (.int p3)]) ⟨Or.inr rfl, Or.inr rfl, Or.inr rfl, Or.inr rfl, trivial⟩ (jn_X12_odds_22 G p1 p2 p3 m4  hR)
  · exact ev_drop (l' := [some (.ref 272), some (.int p1), some (.int p2), some (.int p3)]) ⟨Or.inr rfl, Or.inr rfl, Or.inr rfl, Or.inr rfl, trivial⟩ (jn_X12_odds_22 G p1 p2 p3 m2  hR)
def F_X12_best : ea_F := (ea_rm 18 0 0, cX12_best, RX12, some .int, 5, [], 0, 0)
def D_X12_best : List (Nat × Instr × Nat) := [(0, .aload_n 0, 1), (1, .iconst 0, 1), (2, .putfield 3, 3), (5, .aload_n 0, 1), (6, .aload_n 0, 1), (7, .iload_n 1, 1), (8, .invokevirtual 303, 3), (11, .iconst 1, 1), (12, .invokevirtual 265, 3), (15, .ifCond .eq 5, 3), (18, .iconst 0, 1), (19, .ireturn, 1), (20, .aload_n 0, 1), (21, .invokevirtual 378, 3), (24, .iconst (-1), 1), (25, .istore_n 3, 1), (26, .iconst 0, 1), (27, .istore 4, 2), (29, .iload 4, 2), (31, .aload_n 0, 1), (32, .invokevirtual 74, 3), (35, .if_icmp .ge 41, 3), (38, .iload_n 2, 1), (39, .iload 4, 2), (41, .invokestatic 127, 3), (44, .ifCond .eq 26, 3), (47, .iload_n 3, 1), (48, .ifCond .lt 19, 3), (51, .aload_n 0, 1), (52, .iload 4, 2), (54, .iload_n 1, 1), (55, .invokevirtual 381, 3), (58, .aload_n 0, 1), (59, .iload_n 3, 1), (60, .iload_n 1, 1), (61, .invokevirtual 381, 3), (64, .if_icmp .le 6, 3), (67, .iload 4, 2), (69, .istore_n 3, 1), (70, .iinc 4 1, 3), (73, .goto (-44), 3), (76, .iload_n 3, 1), (77, .ireturn, 1)]
theorem dt_X12_best : ∀ q ∈ D_X12_best, decode cX12_best q.1 = .ok q.2 := by decide +kernel
theorem mv_X12_best : ea_MV yX12_best (F_X12_best) 2 := ⟨⟨List.mem_append_right _ (List.mem_of_getElem? (i := 13) (by decide +kernel)), List.mem_append_right _ (List.mem_of_getElem? (i := 1843) (by decide +kernel)), ⟨by decide, by decide⟩, by decide +kernel⟩, List.mem_append_right _ (List.mem_of_getElem? (i := 1841) (by decide +kernel)), List.mem_append_right _ (List.mem_of_getElem? (i := 1842) (by decide +kernel))⟩
def f_X12_best_j70 (p1 : Int32) (p2 : Int32) (x12 : Int32) (x13 : Int32) (m14 : ea_M) : Option ((Int32 × Int32 × ea_M) ⊕ (Int32 × ea_M)) :=
  some (.inl (x12, x13 + 1, m14))
def f_X12_best_j67 (p1 : Int32) (p2 : Int32) (x15 : Int32) (m16 : ea_M) : Option ((Int32 × Int32 × ea_M) ⊕ (Int32 × ea_M)) :=
  f_X12_best_j70 p1 p2 x15 x15 m16
def f_X12_best_s29 (p1 : Int32) (p2 : Int32)  (s29 : Int32 × Int32 × ea_M) : Option ((Int32 × Int32 × ea_M) ⊕ (Int32 × ea_M)) :=
  ea_cl (f_X12_birds s29.2.2) fun r9 m8 =>
  if r9 ≤ s29.2.1 then
  some (.inr (s29.1, m8))
  else
  ea_cl (f_X12_has p2 s29.2.1 m8) fun r11 m10 =>
  if r11 = 0 then
  f_X12_best_j70 p1 p2 s29.1 s29.2.1 m10
  else
  if s29.1 < 0 then
  f_X12_best_j67 p1 p2 s29.2.1 m10
  else
  ea_cl (f_X12_firstHas s29.2.1 p1 m10) fun r18 m17 =>
  ea_cl (f_X12_firstHas s29.1 p1 m17) fun r20 m19 =>
  if r18 ≤ r20 then
  f_X12_best_j70 p1 p2 s29.1 s29.2.1 m19
  else
  f_X12_best_j67 p1 p2 s29.2.1 m19
def f_X12_best (p1 : Int32) (p2 : Int32) (m : ea_M) : Option (Int32 × ea_M) :=
  ea_bd (ea_st m 272 0 0) fun m1 =>
  ea_cl (f_X12_noBird p1 m1) fun r3 m2 =>
  ea_cl (f_X12_throwsIf r3 1 m2) fun r5 m4 =>
  if r5 = 0 then
  ea_cl (f_X12_laysAllGoods m4) fun r7 m6 =>
  (ea_loop (f_X12_best_s29 p1 p2) ea_fuel ((-1), 0, m6)).bind (fun x29s =>
  some (x29s.1, x29s.2))
  else
  some (0, m4)
set_option maxHeartbeats 300000 in
theorem jn_X12_best_70 (G : ea_G) {res : ea_O}  (p1 : Int32) (p2 : Int32) (x12 : Int32) (x13 : Int32) (m14 : ea_M)  {Φ : ((Int32 × Int32 × ea_M) ⊕ (Int32 × ea_M)) → Prop} (hC : ∀ s29 : Int32 × Int32 × ea_M, Φ (.inl s29) → ea_Ev G F_X12_best res 29 [some (.ref 272), some (.int p1), some (.int p2), some (.int s29.1), some (.int s29.2.1)] [] s29.2.2 0 0) (hX : ∀ x29s : Int32 × ea_M, Φ (.inr x29s) → ea_Ev G F_X12_best res 76 [none, none, none, some (.int x29s.1), none] [] x29s.2 0 0) : ea_E G F_X12_best res 70 [some (.ref 272), some (.int p1), some (.int p2), some (.int x12), some (.int x13)] [] m14 0 0 (f_X12_best_j70 p1 p2 x12 x13 m14) Φ := by
  unfold f_X12_best_j70
  refine ev_iinc (ls' := [some (.ref 272), some (.int p1), some (.int p2), some (.int x12), some (.int (x13 + 1))]) (ea_at dt_X12_best 39 rfl) rfl (congrArg (fun z => _ + z) ic_1) (ea_lt rfl) rfl ?_
  refine ev_goto (tgt := 29) (ea_at dt_X12_best 40 rfl) rfl ?_
  exact ev_leaf (fun h => ea_drop (l' := [some (.ref 272), some (.int p1), some (.int p2), some (.int x12), some (.int (x13 + 1))]) ⟨Or.inr rfl, Or.inr rfl, Or.inr rfl, Or.inr rfl, Or.inr rfl, trivial⟩ (hC (x12, x13 + 1, m14) h))
set_option maxHeartbeats 300000 in
theorem jn_X12_best_67 (G : ea_G) {res : ea_O}  (p1 : Int32) (p2 : Int32) (x15 : Int32) (m16 : ea_M)  {Φ : ((Int32 × Int32 × ea_M) ⊕ (Int32 × ea_M)) → Prop} (hC : ∀ s29 : Int32 × Int32 × ea_M, Φ (.inl s29) → ea_Ev G F_X12_best res 29 [some (.ref 272), some (.int p1), some (.int p2), some (.int s29.1), some (.int s29.2.1)] [] s29.2.2 0 0) (hX : ∀ x29s : Int32 × ea_M, Φ (.inr x29s) → ea_Ev G F_X12_best res 76 [none, none, none, some (.int x29s.1), none] [] x29s.2 0 0) : ea_E G F_X12_best res 67 [some (.ref 272), some (.int p1), some (.int p2), none, some (.int x15)] [] m16 0 0 (f_X12_best_j67 p1 p2 x15 m16) Φ := by
  unfold f_X12_best_j67
  refine ev_iload (ea_at dt_X12_best 37 rfl) rfl ?_
  refine ev_istore_n (ls' := [some (.ref 272), some (.int p1), some (.int p2), some (.int x15), some (.int x15)]) (ea_at dt_X12_best 38 rfl) (ea_lt rfl) rfl ?_
  exact ev_drop (l' := [some (.ref 272), some (.int p1), some (.int p2), some (.int x15), some (.int x15)]) ⟨Or.inr rfl, Or.inr rfl, Or.inr rfl, Or.inr rfl, Or.inr rfl, trivial⟩ (jn_X12_best_70 G p1 p2 x15 x15 m16  hC hX)
set_option maxHeartbeats 300000 in
theorem lp_X12_best_29 (G : ea_G) {res : ea_O}  (p1 : Int32) (p2 : Int32)  {Ψ : (Int32 × ea_M) → Prop} (hX : ∀ x29s : Int32 × ea_M, Ψ x29s → ea_Ev G F_X12_best res 76 [none, none, none, some (.int x29s.1), none] [] x29s.2 0 0) : ∀ (f : Nat) (s29 : Int32 × Int32 × ea_M), ea_E G F_X12_best res 29 [some (.ref 272), some (.int p1), some (.int p2), some (.int s29.1), some (.int s29.2.1)] [] s29.2.2 0 0 (ea_loop (f_X12_best_s29 p1 p2) f s29) Ψ := by
  refine ev_loop (G := G) (F := F_X12_best) (res := res) (pc := 29) (st := []) (k := 0) (n := 0) (step := (f_X12_best_s29 p1 p2)) (Ψ := Ψ) (fun (s29 : Int32 × Int32 × ea_M) => [some (.ref 272), some (.int p1), some (.int p2), some (.int s29.1), some (.int s29.2.1)]) (fun (s29 : Int32 × Int32 × ea_M) => s29.2.2) (fun s29 => ?_)
  have hC : ∀ s29 : Int32 × Int32 × ea_M, (Sum.elim (fun s29 : Int32 × Int32 × ea_M => ea_Ev G F_X12_best res 29 [some (.ref 272), some (.int p1), some (.int p2), some (.int s29.1), some (.int s29.2.1)] [] s29.2.2 0 0) Ψ) (.inl s29) → ea_Ev G F_X12_best res 29 [some (.ref 272), some (.int p1), some (.int p2), some (.int s29.1), some (.int s29.2.1)] [] s29.2.2 0 0 := fun _ h => h
  have hX : ∀ x29s : Int32 × ea_M, (Sum.elim (fun s29 : Int32 × Int32 × ea_M => ea_Ev G F_X12_best res 29 [some (.ref 272), some (.int p1), some (.int p2), some (.int s29.1), some (.int s29.2.1)] [] s29.2.2 0 0) Ψ) (.inr x29s) → ea_Ev G F_X12_best res 76 [none, none, none, some (.int x29s.1), none] [] x29s.2 0 0 := hX
  unfold f_X12_best_s29
  refine ev_iload (ea_at dt_X12_best 18 rfl) rfl ?_
  refine ev_aload_n (ea_at dt_X12_best 19 rfl) rfl ?_
  refine ev_clI (F1 := F_X12_birds) (fun rY mY hY => ea_runV (As := []) (ea_at dt_X12_best 20 rfl) ml_X12_74 mv_X12_birds (ok_X12_birds G s29.2.2  rY mY hY) sh_272 rfl rfl rfl (Nat.le_of_ble_eq_true rfl) rfl) rfl (fun r9 m8 => ?_)
  refine ev_icmp_ge (tgt := 76) (ea_at dt_X12_best 21 rfl) rfl (fun _ => ?_) (fun _ => ?_)
  · exact ev_leaf (fun h => ea_drop (l' := [none, none, none, some (.int s29.1), none]) ⟨Or.inl rfl, Or.inl rfl, Or.inl rfl, Or.inr rfl, Or.inl rfl, trivial⟩ (hX (s29.1, m8) h))
  · refine ev_iload_n (ea_at dt_X12_best 22 rfl) rfl ?_
    refine ev_iload (ea_at dt_X12_best 23 rfl) rfl ?_
    refine ev_clI (F1 := F_X12_has) (fun rY mY hY => ea_runS (As := [.int p2, .int s29.2.1]) (ea_at dt_X12_best 24 rfl) ml_X12_127 mv_X12_has (ok_X12_has G p2 s29.2.1 m8  rY mY hY) rfl rfl (Nat.le_of_ble_eq_true rfl) rfl) rfl (fun r11 m10 => ?_)
    refine ev_if_eq (tgt := 70) (ea_at dt_X12_best 25 rfl) rfl (fun _ => ?_) (fun _ => ?_)
    · exact ev_drop (l' := [some (.ref 272), some (.int p1), some (.int p2), some (.int s29.1), some (.int s29.2.1)]) ⟨Or.inr rfl, Or.inr rfl, Or.inr rfl, Or.inr rfl, Or.inr rfl, trivial⟩ (jn_X12_best_70 G p1 p2 s29.1 s29.2.1 m10  hC hX)
    · refine ev_iload_n (ea_at dt_X12_best 26 rfl) rfl ?_
      refine ev_if_lt (tgt := 67) (ea_at dt_X12_best 27 rfl) rfl (fun _ => ?_) (fun _ => ?_)
      · exact ev_drop (l' := [some (.ref 272), some (.int p1), some (.int p2), none, some (.int s29.2.1)]) ⟨Or.inr rfl, Or.inr rfl, Or.inr rfl, Or.inl rfl, Or.inr rfl, trivial⟩ (jn_X12_best_67 G p1 p2 s29.2.1 m10  hC hX)
      · refine ev_aload_n (ea_at dt_X12_best 28 rfl) rfl ?_
        refine ev_iload (ea_at dt_X12_best 29 rfl) rfl ?_
        refine ev_iload_n (ea_at dt_X12_best 30 rfl) rfl ?_
        refine ev_clI (F1 := F_X12_firstHas) (fun rY mY hY => ea_runV (As := [.int s29.2.1, .int p1]) (ea_at dt_X12_best 31 rfl) ml_X12_381 mv_X12_firstHas (ok_X12_firstHas G s29.2.1 p1 m10  rY mY hY) sh_272 rfl rfl rfl (Nat.le_of_ble_eq_true rfl) rfl) rfl (fun r18 m17 => ?_)
        refine ev_aload_n (ea_at dt_X12_best 32 rfl) rfl ?_
        refine ev_iload_n (ea_at dt_X12_best 33 rfl) rfl ?_
        refine ev_iload_n (ea_at dt_X12_best 34 rfl) rfl ?_
        refine ev_clI (F1 := F_X12_firstHas) (fun rY mY hY => ea_runV (As := [.int s29.1, .int p1]) (ea_at dt_X12_best 35 rfl) ml_X12_381 mv_X12_firstHas (ok_X12_firstHas G s29.1 p1 m17  rY mY hY) sh_272 rfl rfl rfl (Nat.le_of_ble_eq_true rfl) rfl) rfl (fun r20 m19 => ?_)
        refine ev_icmp_le (tgt := 70) (ea_at dt_X12_best 36 rfl) rfl (fun _ => ?_) (fun _ => ?_)
        · exact ev_drop (l' := [some (.ref 272), some (.int p1), some (.int p2), some (.int s29.1), some (.int s29.2.1)]) ⟨Or.inr rfl, Or.inr rfl, Or.inr rfl, Or.inr rfl, Or.inr rfl, trivial⟩ (jn_X12_best_70 G p1 p2 s29.1 s29.2.1 m19  hC hX)
        · exact ev_drop (l' := [some (.ref 272), some (.int p1), some (.int p2), none, some (.int s29.2.1)]) ⟨Or.inr rfl, Or.inr rfl, Or.inr rfl, Or.inl rfl, Or.inr rfl, trivial⟩ (jn_X12_best_67 G p1 p2 s29.2.1 m19  hC hX)
set_option maxHeartbeats 300000 in
theorem ok_X12_best (G : ea_G) (p1 : Int32) (p2 : Int32) (m : ea_M)  (rZ : Int32) (mZ : ea_M) (hZ : f_X12_best p1 p2 m = some (rZ, mZ)) : ea_Met G yX12_best F_X12_best [.ref 272, .int p1, .int p2] m (0, rZ, mZ) := by
  refine ea_met (F := F_X12_best) (by decide +kernel) rfl rfl (Nat.le_of_ble_eq_true rfl) (by simp only [List.mem_cons, List.not_mem_nil, or_false]; intro v hv; rcases hv with rfl | rfl | rfl <;> rfl) ((?_ : ea_E G F_X12_best (0, rZ, mZ) 0 [some (.ref 272), some (.int p1), some (.int p2), none, none] [] m 0 0 (f_X12_best p1 p2 m) (fun t => t = (rZ, mZ))) (rZ, mZ) hZ rfl)
  have hR : ∀ t : Int32 × ea_M, t = (rZ, mZ) → ((0, rZ, mZ) : ea_O) = (0, t) := fun t h => by rw [h]
  unfold f_X12_best
  refine ev_aload_n (ea_at dt_X12_best 0 rfl) rfl ?_
  refine ev_iconst (ea_at dt_X12_best 1 rfl) ic_0 ?_
  refine ev_putI (ea_at dt_X12_best 2 rfl) fl_X12_3 fp_12_0 sh_272 rfl ?_
  refine ev_m (fun m1 => ?_)
  refine ev_aload_n (ea_at dt_X12_best 3 rfl) rfl ?_
  refine ev_aload_n (ea_at dt_X12_best 4 rfl) rfl ?_
  refine ev_iload_n (ea_at dt_X12_best 5 rfl) rfl ?_
  refine ev_clI (F1 := F_X12_noBird) (fun rY mY hY => ea_runV (As := [.int p1]) (ea_at dt_X12_best 6 rfl) ml_X12_303 mv_X12_noBird (ok_X12_noBird G p1 m1  rY mY hY) sh_272 rfl rfl rfl (Nat.le_of_ble_eq_true rfl) rfl) rfl (fun r3 m2 => ?_)
  refine ev_iconst (ea_at dt_X12_best 7 rfl) ic_1 ?_
  refine ev_clI (F1 := F_X12_throwsIf) (fun rY mY hY => ea_runV (As := [.int r3, .int 1]) (ea_at dt_X12_best 8 rfl) ml_X12_265 mv_X12_throwsIf (ok_X12_throwsIf G r3 1 m2  rY mY hY) sh_272 rfl rfl rfl (Nat.le_of_ble_eq_true rfl) rfl) rfl (fun r5 m4 => ?_)
  refine ev_if_eq (tgt := 20) (ea_at dt_X12_best 9 rfl) rfl (fun _ => ?_) (fun _ => ?_)
  · refine ev_aload_n (ea_at dt_X12_best 12 rfl) rfl ?_
    refine ev_clU (F1 := F_X12_laysAllGoods) (fun rY mY hY => ea_runV (As := []) (ea_at dt_X12_best 13 rfl) ml_X12_378 mv_X12_laysAllGoods (ok_X12_laysAllGoods G m4  rY mY hY) sh_272 rfl rfl rfl (Nat.le_of_ble_eq_true rfl) rfl) rfl (fun r7 m6 => ?_)
    refine ev_iconst (ea_at dt_X12_best 14 rfl) ic_m1 ?_
    refine ev_istore_n (ls' := [some (.ref 272), some (.int p1), some (.int p2), some (.int (-1)), none]) (ea_at dt_X12_best 15 rfl) (ea_lt rfl) rfl ?_
    refine ev_iconst (ea_at dt_X12_best 16 rfl) ic_0 ?_
    refine ev_istore (ls' := [some (.ref 272), some (.int p1), some (.int p2), some (.int (-1)), some (.int 0)]) (ea_at dt_X12_best 17 rfl) (ea_lt rfl) rfl ?_
    refine ev_drop (l' := [some (.ref 272), some (.int p1), some (.int p2), some (.int (-1)), some (.int 0)]) ⟨Or.inr rfl, Or.inr rfl, Or.inr rfl, Or.inr rfl, Or.inr rfl, trivial⟩ ?_
    refine ev_bind (lp_X12_best_29 G p1 p2   (fun x29s h => ?_) ea_fuel ((-1), 0, m6))
    obtain ⟨t1, e1, q1⟩ := h
    refine (?_ : ea_E G F_X12_best (0, rZ, mZ) 76 [none, none, none, some (.int x29s.1), none] [] x29s.2 0 0 _ (fun t => t = (rZ, mZ))) t1 e1 q1
    refine ev_iload_n (ea_at dt_X12_best 41 rfl) rfl ?_
    exact ev_iret (ea_at dt_X12_best 42 rfl) rfl ⟨by decide, by decide⟩ (fun h => hR _ h)
  · refine ev_iconst (ea_at dt_X12_best 10 rfl) ic_0 ?_
    exact ev_iret (ea_at dt_X12_best 11 rfl) rfl ⟨by decide, by decide⟩ (fun h => hR _ h)
def F_X12_when : ea_F := (ea_rm 17 0 0, cX12_when, RX12, some .int, 8, [], 0, 0)
def D_X12_when : List (Nat × Instr × Nat) := [(0, .aload_n 0, 1), (1, .iconst 0, 1), (2, .putfield 3, 3), (5, .aload_n 0, 1), (6, .aload_n 0, 1), (7, .iload_n 1, 1), (8, .invokevirtual 303, 3), (11, .ifCond .ne 11, 3), (14, .aload_n 0, 1), (15, .iload_n 2, 1), (16, .invokevirtual 303, 3), (19, .ifCond .eq 7, 3), (22, .iconst 1, 1), (23, .goto 4, 3), (26, .iconst 0, 1), (27, .iconst 1, 1), (28, .invokevirtual 265, 3), (31, .ifCond .eq 5, 3), (34, .iconst 0, 1), (35, .ireturn, 1), (36, .aload_n 0, 1), (37, .getfield 13, 3), (40, .bipush 6, 2), (42, .iaload, 1), (43, .istore_n 3, 1), (44, .iconst 0, 1), (45, .istore 4, 2), (47, .iconst (-1), 1), (48, .istore 5, 2), (50, .iconst 0, 1), (51, .istore 6, 2), (53, .iload 6, 2), (55, .bipush 24, 2), (57, .if_icmp .ge 61, 3), (60, .aload_n 0, 1), (61, .getfield 13, 3), (64, .bipush 6, 2), (66, .iload 6, 2), (68, .iastore, 1), (69, .aload_n 0, 1), (70, .iload_n 1, 1), (71, .invokevirtual 369, 3), (74, .aload_n 0, 1), (75, .iload_n 2, 1), (76, .invokevirtual 369, 3), (79, .aload_n 0, 1), (80, .iload_n 1, 1), (81, .iload_n 2, 1), (82, .invokevirtual 381, 3), (85, .istore 7, 2), (87, .iload 7, 2), (89, .iload 5, 2), (91, .if_icmp .le 8, 3), (94, .iload 6, 2), (96, .goto 5, 3), (99, .iload 4, 2), (101, .istore 4, 2), (103, .iload 5, 2), (105, .iload 7, 2), (107, .invokestatic 300, 3), (110, .istore 5, 2), (112, .iinc 6 1, 3), (115, .goto (-62), 3), (118, .aload_n 0, 1), (119, .getfield 13, 3), (122, .bipush 6, 2), (124, .iload_n 3, 1), (125, .iastore, 1), (126, .iload 4, 2), (128, .ireturn, 1)]
theorem dt_X12_when : ∀ q ∈ D_X12_when, decode cX12_when q.1 = .ok q.2 := by decide +kernel
theorem mv_X12_when : ea_MV yX12_when (F_X12_when) 2 := ⟨⟨List.mem_append_right _ (List.mem_of_getElem? (i := 13) (by decide +kernel)), List.mem_append_right _ (List.mem_of_getElem? (i := 1847) (by decide +kernel)), ⟨by decide, by decide⟩, by decide +kernel⟩, List.mem_append_right _ (List.mem_of_getElem? (i := 1845) (by decide +kernel)), List.mem_append_right _ (List.mem_of_getElem? (i := 1846) (by decide +kernel))⟩
def f_X12_when_j101 (p1 : Int32) (p2 : Int32) (x10 : Int32) (x18 : Int32) (x19 : Int32) (x20 : Int32) (x21 : Int32) (m22 : ea_M) : Option ((Int32 × Int32 × Int32 × ea_M) ⊕ (Int32 × ea_M)) :=
  ea_bd (ea_max x18 x20) fun x23 =>
  some (.inl (x21, x23, x19 + 1, m22))
def f_X12_when_s53 (p1 : Int32) (p2 : Int32) (x10 : Int32)  (s53 : Int32 × Int32 × Int32 × ea_M) : Option ((Int32 × Int32 × Int32 × ea_M) ⊕ (Int32 × ea_M)) :=
  if 24 ≤ s53.2.2.1 then
  some (.inr (s53.1, s53.2.2.2))
  else
  ea_bd (ea_st s53.2.2.2 273 6 s53.2.2.1) fun m11 =>
  ea_cl (f_X12_laysGoods p1 m11) fun r13 m12 =>
  ea_cl (f_X12_laysGoods p2 m12) fun r15 m14 =>
  ea_cl (f_X12_firstHas p1 p2 m14) fun r17 m16 =>
  if r17 ≤ s53.2.1 then
  f_X12_when_j101 p1 p2 x10 s53.2.1 s53.2.2.1 r17 s53.1 m16
  else
  f_X12_when_j101 p1 p2 x10 s53.2.1 s53.2.2.1 r17 s53.2.2.1 m16
def f_X12_when_j27 (p1 : Int32) (p2 : Int32) (x6 : Int32) (m7 : ea_M) : Option (Int32 × ea_M) :=
  ea_cl (f_X12_throwsIf x6 1 m7) fun r9 m8 =>
  if r9 = 0 then
  ea_bd (m8 273 6) fun x10 =>
  (ea_loop (f_X12_when_s53 p1 p2 x10) ea_fuel (0, (-1), 0, m8)).bind (fun x53s =>
  ea_bd (ea_st x53s.2 273 6 x10) fun m24 =>
  some (x53s.1, m24))
  else
  some (0, m8)
def f_X12_when_j22 (p1 : Int32) (p2 : Int32) (m25 : ea_M) : Option (Int32 × ea_M) :=
  f_X12_when_j27 p1 p2 1 m25
def f_X12_when (p1 : Int32) (p2 : Int32) (m : ea_M) : Option (Int32 × ea_M) :=
  ea_bd (ea_st m 272 0 0) fun m1 =>
  ea_cl (f_X12_noBird p1 m1) fun r3 m2 =>
  if r3 = 0 then
  ea_cl (f_X12_noBird p2 m2) fun r5 m4 =>
  if r5 = 0 then
  f_X12_when_j27 p1 p2 0 m4
  else
  f_X12_when_j22 p1 p2 m4
  else
  f_X12_when_j22 p1 p2 m2
set_option maxHeartbeats 300000 in
theorem jn_X12_when_101 (G : ea_G) {res : ea_O}  (p1 : Int32) (p2 : Int32) (x10 : Int32) (x18 : Int32) (x19 : Int32) (x20 : Int32) (x21 : Int32) (m22 : ea_M)  {Φ : ((Int32 × Int32 × Int32 × ea_M) ⊕ (Int32 × ea_M)) → Prop} (hC : ∀ s53 : Int32 × Int32 × Int32 × ea_M, Φ (.inl s53) → ea_Ev G F_X12_when res 53 [some (.ref 272), some (.int p1), some (.int p2), some (.int x10), some (.int s53.1), some (.int s53.2.1), some (.int s53.2.2.1), none] [] s53.2.2.2 0 0) (hX : ∀ x53s : Int32 × ea_M, Φ (.inr x53s) → ea_Ev G F_X12_when res 118 [some (.ref 272), none, none, some (.int x10), some (.int x53s.1), none, none, none] [] x53s.2 0 0) : ea_E G F_X12_when res 101 [some (.ref 272), some (.int p1), some (.int p2), some (.int x10), none, some (.int x18), some (.int x19), some (.int x20)] [.int x21] m22 0 0 (f_X12_when_j101 p1 p2 x10 x18 x19 x20 x21 m22) Φ := by
  unfold f_X12_when_j101
  refine ev_istore (ls' := [some (.ref 272), some (.int p1), some (.int p2), some (.int x10), some (.int x21), some (.int x18), some (.int x19), some (.int x20)]) (ea_at dt_X12_when 56 rfl) (ea_lt rfl) rfl ?_
  refine ev_iload (ea_at dt_X12_when 57 rfl) rfl ?_
  refine ev_iload (ea_at dt_X12_when 58 rfl) rfl ?_
  refine ev_mmax (ea_at dt_X12_when 59 rfl) ml_X12_300 ea_maW_max ⟨by decide, Nat.le_of_ble_eq_true rfl, by decide, by decide⟩ ?_
  refine ev_i (fun x23 => ?_)
  refine ev_istore (ls' := [some (.ref 272), some (.int p1), some (.int p2), some (.int x10), some (.int x21), some (.int x23), some (.int x19), some (.int x20)]) (ea_at dt_X12_when 60 rfl) (ea_lt rfl) rfl ?_
  refine ev_iinc (ls' := [some (.ref 272), some (.int p1), some (.int p2), some (.int x10), some (.int x21), some (.int x23), some (.int (x19 + 1)), some (.int x20)]) (ea_at dt_X12_when 61 rfl) rfl (congrArg (fun z => _ + z) ic_1) (ea_lt rfl) rfl ?_
  refine ev_goto (tgt := 53) (ea_at dt_X12_when 62 rfl) rfl ?_
  exact ev_leaf (fun h => ea_drop (l' := [some (.ref 272), some (.int p1), some (.int p2), some (.int x10), some (.int x21), some (.int x23), some (.int (x19 + 1)), none]) ⟨Or.inr rfl, Or.inr rfl, Or.inr rfl, Or.inr rfl, Or.inr rfl, Or.inr rfl, Or.inr rfl, Or.inl rfl, trivial⟩ (hC (x21, x23, x19 + 1, m22) h))
set_option maxHeartbeats 300000 in
theorem lp_X12_when_53 (G : ea_G) {res : ea_O}  (p1 : Int32) (p2 : Int32) (x10 : Int32)  {Ψ : (Int32 × ea_M) → Prop} (hX : ∀ x53s : Int32 × ea_M, Ψ x53s → ea_Ev G F_X12_when res 118 [some (.ref 272), none, none, some (.int x10), some (.int x53s.1), none, none, none] [] x53s.2 0 0) : ∀ (f : Nat) (s53 : Int32 × Int32 × Int32 × ea_M), ea_E G F_X12_when res 53 [some (.ref 272), some (.int p1), some (.int p2), some (.int x10), some (.int s53.1), some (.int s53.2.1), some (.int s53.2.2.1), none] [] s53.2.2.2 0 0 (ea_loop (f_X12_when_s53 p1 p2 x10) f s53) Ψ := by
  refine ev_loop (G := G) (F := F_X12_when) (res := res) (pc := 53) (st := []) (k := 0) (n := 0) (step := (f_X12_when_s53 p1 p2 x10)) (Ψ := Ψ) (fun (s53 : Int32 × Int32 × Int32 × ea_M) => [some (.ref 272), some (.int p1), some (.int p2), some (.int x10), some (.int s53.1), some (.int s53.2.1), some (.int s53.2.2.1), none]) (fun (s53 : Int32 × Int32 × Int32 × ea_M) => s53.2.2.2) (fun s53 => ?_)
  have hC : ∀ s53 : Int32 × Int32 × Int32 × ea_M, (Sum.elim (fun s53 : Int32 × Int32 × Int32 × ea_M => ea_Ev G F_X12_when res 53 [some (.ref 272), some (.int p1), some (.int p2), some (.int x10), some (.int s53.1), some (.int s53.2.1), some (.int s53.2.2.1), none] [] s53.2.2.2 0 0) Ψ) (.inl s53) → ea_Ev G F_X12_when res 53 [some (.ref 272), some (.int p1), some (.int p2), some (.int x10), some (.int s53.1), some (.int s53.2.1), some (.int s53.2.2.1), none] [] s53.2.2.2 0 0 := fun _ h => h
  have hX : ∀ x53s : Int32 × ea_M, (Sum.elim (fun s53 : Int32 × Int32 × Int32 × ea_M => ea_Ev G F_X12_when res 53 [some (.ref 272), some (.int p1), some (.int p2), some (.int x10), some (.int s53.1), some (.int s53.2.1), some (.int s53.2.2.1), none] [] s53.2.2.2 0 0) Ψ) (.inr x53s) → ea_Ev G F_X12_when res 118 [some (.ref 272), none, none, some (.int x10), some (.int x53s.1), none, none, none] [] x53s.2 0 0 := hX
  unfold f_X12_when_s53
  refine ev_iload (ea_at dt_X12_when 31 rfl) rfl ?_
  refine ev_bipush (ea_at dt_X12_when 32 rfl) bp_24 ?_
  refine ev_icmp_ge (tgt := 118) (ea_at dt_X12_when 33 rfl) rfl (fun _ => ?_) (fun _ => ?_)
  · exact ev_leaf (fun h => ea_drop (l' := [some (.ref 272), none, none, some (.int x10), some (.int s53.1), none, none, none]) ⟨Or.inr rfl, Or.inl rfl, Or.inl rfl, Or.inr rfl, Or.inr rfl, Or.inl rfl, Or.inl rfl, Or.inl rfl, trivial⟩ (hX (s53.1, s53.2.2.2) h))
  · refine ev_aload_n (ea_at dt_X12_when 34 rfl) rfl ?_
    refine ev_getR (ea_at dt_X12_when 35 rfl) fl_X12_13 sh_272 rfl ?_
    refine ev_bipush (ea_at dt_X12_when 36 rfl) bp_6 ?_
    refine ev_iload (ea_at dt_X12_when 37 rfl) rfl ?_
    refine ev_iastoreC (j := 6) (ea_at dt_X12_when 38 rfl) sh_273 (by decide) (by decide) (by decide) (by decide) ?_
    refine ev_m (fun m11 => ?_)
    refine ev_aload_n (ea_at dt_X12_when 39 rfl) rfl ?_
    refine ev_iload_n (ea_at dt_X12_when 40 rfl) rfl ?_
    refine ev_clU (F1 := F_X12_laysGoods) (fun rY mY hY => ea_runV (As := [.int p1]) (ea_at dt_X12_when 41 rfl) ml_X12_369 mv_X12_laysGoods (ok_X12_laysGoods G p1 m11  rY mY hY) sh_272 rfl rfl rfl (Nat.le_of_ble_eq_true rfl) rfl) rfl (fun r13 m12 => ?_)
    refine ev_aload_n (ea_at dt_X12_when 42 rfl) rfl ?_
    refine ev_iload_n (ea_at dt_X12_when 43 rfl) rfl ?_
    refine ev_clU (F1 := F_X12_laysGoods) (fun rY mY hY => ea_runV (As := [.int p2]) (ea_at dt_X12_when 44 rfl) ml_X12_369 mv_X12_laysGoods (ok_X12_laysGoods G p2 m12  rY mY hY) sh_272 rfl rfl rfl (Nat.le_of_ble_eq_true rfl) rfl) rfl (fun r15 m14 => ?_)
    refine ev_aload_n (ea_at dt_X12_when 45 rfl) rfl ?_
    refine ev_iload_n (ea_at dt_X12_when 46 rfl) rfl ?_
    refine ev_iload_n (ea_at dt_X12_when 47 rfl) rfl ?_
    refine ev_clI (F1 := F_X12_firstHas) (fun rY mY hY => ea_runV (As := [.int p1, .int p2]) (ea_at dt_X12_when 48 rfl) ml_X12_381 mv_X12_firstHas (ok_X12_firstHas G p1 p2 m14  rY mY hY) sh_272 rfl rfl rfl (Nat.le_of_ble_eq_true rfl) rfl) rfl (fun r17 m16 => ?_)
    refine ev_istore (ls' := [some (.ref 272), some (.int p1), some (.int p2), some (.int x10), some (.int s53.1), some (.int s53.2.1), some (.int s53.2.2.1), some (.int r17)]) (ea_at dt_X12_when 49 rfl) (ea_lt rfl) rfl ?_
    refine ev_iload (ea_at dt_X12_when 50 rfl) rfl ?_
    refine ev_iload (ea_at dt_X12_when 51 rfl) rfl ?_
    refine ev_icmp_le (tgt := 99) (ea_at dt_X12_when 52 rfl) rfl (fun _ => ?_) (fun _ => ?_)
    · refine ev_iload (ea_at dt_X12_when 55 rfl) rfl ?_
      exact ev_drop (l' := [some (.ref 272), some (.int p1), some (.int p2), some (.int x10), none, some (.int s53.2.1), some (.int s53.2.2.1), some (.int r17)]) ⟨Or.inr rfl, Or.inr rfl, Or.inr rfl, Or.inr rfl, Or.inl rfl, Or.inr rfl, Or.inr rfl, Or.inr rfl, trivial⟩ (jn_X12_when_101 G p1 p2 x10 s53.2.1 s53.2.2.1 r17 s53.1 m16  hC hX)
    · refine ev_iload (ea_at dt_X12_when 53 rfl) rfl ?_
      refine ev_goto (tgt := 101) (ea_at dt_X12_when 54 rfl) rfl ?_
      exact ev_drop (l' := [some (.ref 272), some (.int p1), some (.int p2), some (.int x10), none, some (.int s53.2.1), some (.int s53.2.2.1), some (.int r17)]) ⟨Or.inr rfl, Or.inr rfl, Or.inr rfl, Or.inr rfl, Or.inl rfl, Or.inr rfl, Or.inr rfl, Or.inr rfl, trivial⟩ (jn_X12_when_101 G p1 p2 x10 s53.2.1 s53.2.2.1 r17 s53.2.2.1 m16  hC hX)
set_option maxHeartbeats 300000 in
theorem jn_X12_when_27 (G : ea_G) {res : ea_O}  (p1 : Int32) (p2 : Int32) (x6 : Int32) (m7 : ea_M)  {Φ : (Int32 × ea_M) → Prop} (hR : ∀ t : Int32 × ea_M, Φ t → res = (0, t)) : ea_E G F_X12_when res 27 [some (.ref 272), some (.int p1), some (.int p2), none, none, none, none, none] [.int x6, .ref 272] m7 0 0 (f_X12_when_j27 p1 p2 x6 m7) Φ := by
  unfold f_X12_when_j27
  refine ev_iconst (ea_at dt_X12_when 15 rfl) ic_1 ?_
  refine ev_clI (F1 := F_X12_throwsIf) (fun rY mY hY => ea_runV (As := [.int x6, .int 1]) (ea_at dt_X12_when 16 rfl) ml_X12_265 mv_X12_throwsIf (ok_X12_throwsIf G x6 1 m7  rY mY hY) sh_272 rfl rfl rfl (Nat.le_of_ble_eq_true rfl) rfl) rfl (fun r9 m8 => ?_)
  refine ev_if_eq (tgt := 36) (ea_at dt_X12_when 17 rfl) rfl (fun _ => ?_) (fun _ => ?_)
  · refine ev_aload_n (ea_at dt_X12_when 20 rfl) rfl ?_
    refine ev_getR (ea_at dt_X12_when 21 rfl) fl_X12_13 sh_272 rfl ?_
    refine ev_bipush (ea_at dt_X12_when 22 rfl) bp_6 ?_
    refine ev_ialoadC (j := 6) (ea_at dt_X12_when 23 rfl) sh_273 (by decide) (by decide) (by decide) (by decide) ?_
    refine ev_i (fun x10 => ?_)
    refine ev_istore_n (ls' := [some (.ref 272), some (.int p1), some (.int p2), some (.int x10), none, none, none, none]) (ea_at dt_X12_when 24 rfl) (ea_lt rfl) rfl ?_
    refine ev_iconst (ea_at dt_X12_when 25 rfl) ic_0 ?_
    refine ev_istore (ls' := [some (.ref 272), some (.int p1), some (.int p2), some (.int x10), some (.int 0), none, none, none]) (ea_at dt_X12_when 26 rfl) (ea_lt rfl) rfl ?_
    refine ev_iconst (ea_at dt_X12_when 27 rfl) ic_m1 ?_
    refine ev_istore (ls' := [some (.ref 272), some (.int p1), some (.int p2), some (.int x10), some (.int 0), some (.int (-1)), none, none]) (ea_at dt_X12_when 28 rfl) (ea_lt rfl) rfl ?_
    refine ev_iconst (ea_at dt_X12_when 29 rfl) ic_0 ?_
    refine ev_istore (ls' := [some (.ref 272), some (.int p1), some (.int p2), some (.int x10), some (.int 0), some (.int (-1)), some (.int 0), none]) (ea_at dt_X12_when 30 rfl) (ea_lt rfl) rfl ?_
    refine ev_drop (l' := [some (.ref 272), some (.int p1), some (.int p2), some (.int x10), some (.int 0), some (.int (-1)), some (.int 0), none]) ⟨Or.inr rfl, Or.inr rfl, Or.inr rfl, Or.inr rfl, Or.inr rfl, Or.inr rfl, Or.inr rfl, Or.inl rfl, trivial⟩ ?_
    refine ev_bind (lp_X12_when_53 G p1 p2 x10   (fun x53s h => ?_) ea_fuel (0, (-1), 0, m8))
    obtain ⟨t1, e1, q1⟩ := h
    refine (?_ : ea_E G F_X12_when res 118 [some (.ref 272), none, none, some (.int x10), some (.int x53s.1), none, none, none] [] x53s.2 0 0 _ Φ) t1 e1 q1
    refine ev_aload_n (ea_at dt_X12_when 63 rfl) rfl ?_
    refine ev_getR (ea_at dt_X12_when 64 rfl) fl_X12_13 sh_272 rfl ?_
    refine ev_bipush (ea_at dt_X12_when 65 rfl) bp_6 ?_
    refine ev_iload_n (ea_at dt_X12_when 66 rfl) rfl ?_
    refine ev_iastoreC (j := 6) (ea_at dt_X12_when 67 rfl) sh_273 (by decide) (by decide) (by decide) (by decide) ?_
    refine ev_m (fun m24 => ?_)
    refine ev_iload (ea_at dt_X12_when 68 rfl) rfl ?_
    exact ev_iret (ea_at dt_X12_when 69 rfl) rfl ⟨by decide, by decide⟩ (fun h => hR _ h)
  · refine ev_iconst (ea_at dt_X12_when 18 rfl) ic_0 ?_
    exact ev_iret (ea_at dt_X12_when 19 rfl) rfl ⟨by decide, by decide⟩ (fun h => hR _ h)
set_option maxHeartbeats 300000 in
theorem jn_X12_when_22 (G : ea_G) {res : ea_O}  (p1 : Int32) (p2 : Int32) (m25 : ea_M)  {Φ : (Int32 × ea_M) → Prop} (hR : ∀ t : Int32 × ea_M, Φ t → res = (0, t)) : ea_E G F_X12_when res 22 [some (.ref 272), some (.int p1), some (.int p2), none, none, none, none, none] [.ref 272] m25 0 0 (f_X12_when_j22 p1 p2 m25) Φ := by
  unfold f_X12_when_j22
  refine ev_iconst (ea_at dt_X12_when 12 rfl) ic_1 ?_
  refine ev_goto (tgt := 27) (ea_at dt_X12_when 13 rfl) rfl ?_
  exact ev_drop (l' := [some (.ref 272), some (.int p1), some (.int p2), none, none, none, none, none]) ⟨Or.inr rfl, Or.inr rfl, Or.inr rfl, Or.inl rfl, Or.inl rfl, Or.inl rfl, Or.inl rfl, Or.inl rfl, trivial⟩ (jn_X12_when_27 G p1 p2 1 m25  hR)
set_option maxHeartbeats 300000 in
theorem ok_X12_when (G : ea_G) (p1 : Int32) (p2 : Int32) (m : ea_M)  (rZ : Int32) (mZ : ea_M) (hZ : f_X12_when p1 p2 m = some (rZ, mZ)) : ea_Met G yX12_when F_X12_when [.ref 272, .int p1, .int p2] m (0, rZ, mZ) := by
  refine ea_met (F := F_X12_when) (by decide +kernel) rfl rfl (Nat.le_of_ble_eq_true rfl) (by simp only [List.mem_cons, List.not_mem_nil, or_false]; intro v hv; rcases hv with rfl | rfl | rfl <;> rfl) ((?_ : ea_E G F_X12_when (0, rZ, mZ) 0 [some (.ref 272), some (.int p1), some (.int p2), none, none, none, none, none] [] m 0 0 (f_X12_when p1 p2 m) (fun t => t = (rZ, mZ))) (rZ, mZ) hZ rfl)
  have hR : ∀ t : Int32 × ea_M, t = (rZ, mZ) → ((0, rZ, mZ) : ea_O) = (0, t) := fun t h => by rw [h]
  unfold f_X12_when
  refine ev_aload_n (ea_at dt_X12_when 0 rfl) rfl ?_
  refine ev_iconst (ea_at dt_X12_when 1 rfl) ic_0 ?_
  refine ev_putI (ea_at dt_X12_when 2 rfl) fl_X12_3 fp_12_0 sh_272 rfl ?_
  refine ev_m (fun m1 => ?_)
  refine ev_aload_n (ea_at dt_X12_when 3 rfl) rfl ?_
  refine ev_aload_n (ea_at dt_X12_when 4 rfl) rfl ?_
  refine ev_iload_n (ea_at dt_X12_when 5 rfl) rfl ?_
  refine ev_clI (F1 := F_X12_noBird) (fun rY mY hY => ea_runV (As := [.int p1]) (ea_at dt_X12_when 6 rfl) ml_X12_303 mv_X12_noBird (ok_X12_noBird G p1 m1  rY mY hY) sh_272 rfl rfl rfl (Nat.le_of_ble_eq_true rfl) rfl) rfl (fun r3 m2 => ?_)
  refine ev_if_ne (tgt := 22) (ea_at dt_X12_when 7 rfl) rfl (fun _ => ?_) (fun _ => ?_)
  · refine ev_aload_n (ea_at dt_X12_when 8 rfl) rfl ?_
    refine ev_iload_n (ea_at dt_X12_when 9 rfl) rfl ?_
    refine ev_clI (F1 := F_X12_noBird) (fun rY mY hY => ea_runV (As := [.int p2]) (ea_at dt_X12_when 10 rfl) ml_X12_303 mv_X12_noBird (ok_X12_noBird G p2 m2  rY mY hY) sh_272 rfl rfl rfl (Nat.le_of_ble_eq_true rfl) rfl) rfl (fun r5 m4 => ?_)
    refine ev_if_eq (tgt := 26) (ea_at dt_X12_when 11 rfl) rfl (fun _ => ?_) (fun _ => ?_)
    · refine ev_iconst (ea_at dt_X12_when 14 rfl) ic_0 ?_
      exact ev_drop (l' := [some (.ref 272), some (.int p1), some (.int p2), none, none, none, none, none]) ⟨Or.inr rfl, Or.inr rfl, Or.inr rfl, Or.inl rfl, Or.inl rfl, Or.inl rfl, Or.inl rfl, Or.inl rfl, trivial⟩ (jn_X12_when_27 G p1 p2 0 m4  hR)
    · exact ev_drop (l' := [some (.ref 272), some (.int p1), some (.int p2), none, none, none, none, none]) ⟨Or.inr rfl, Or.inr rfl, Or.inr rfl, Or.inl rfl, Or.inl rfl, Or.inl rfl, Or.inl rfl, Or.inl rfl, trivial⟩ (jn_X12_when_22 G p1 p2 m4  hR)
  · exact ev_drop (l' := [some (.ref 272), some (.int p1), some (.int p2), none, none, none, none, none]) ⟨Or.inr rfl, Or.inr rfl, Or.inr rfl, Or.inl rfl, Or.inl rfl, Or.inl rfl, Or.inl rfl, Or.inl rfl, trivial⟩ (jn_X12_when_22 G p1 p2 m2  hR)
