def F_X12_isAt : ea_F := (ea_rm 8 0 0, cX12_isAt, RX12, some .boolean, 3, [], 0, 0)
def D_X12_isAt : List (Nat × Instr × Nat) := [(0, .aload_n 0, 1), (1, .getfield 92, 3), (4, .aload_n 0, 1), (5, .getfield 95, 3), (8, .if_icmp .ge 33, 3), (11, .aload_n 0, 1), (12, .getfield 29, 3), (15, .aload_n 0, 1), (16, .getfield 92, 3), (19, .baload, 1), (20, .iload_n 1, 1), (21, .if_icmp .lt 20, 3), (24, .aload_n 0, 1), (25, .getfield 29, 3), (28, .aload_n 0, 1), (29, .getfield 92, 3), (32, .baload, 1), (33, .iload_n 2, 1), (34, .if_icmp .gt 7, 3), (37, .iconst 1, 1), (38, .goto 4, 3), (41, .iconst 0, 1), (42, .ireturn, 1)]
theorem dt_X12_isAt : ∀ q ∈ D_X12_isAt, decode cX12_isAt q.1 = .ok q.2 := by decide +kernel
theorem mv_X12_isAt : ea_MV yX12_isAt (F_X12_isAt) 2 := ⟨⟨List.mem_append_right _ (List.mem_of_getElem? (i := 13) (by decide +kernel)), List.mem_append_right _ (List.mem_of_getElem? (i := 1540) (by decide +kernel)), ⟨by decide, by decide⟩, by decide +kernel⟩, List.mem_append_right _ (List.mem_of_getElem? (i := 1539) (by decide +kernel)), List.mem_append_left _ (List.mem_of_getElem? (i := 45) (by decide +kernel))⟩
def f_X12_isAt (p1 : Int32) (p2 : Int32) (m : ea_M) : Option (Int32 × ea_M) :=
  ea_bd (m 272 10) fun x1 =>
  ea_bd (m 272 11) fun x2 =>
  if x2 ≤ x1 then
  some (0, m)
  else
  ea_bd (m 272 10) fun x3 =>
  ea_g x3 400 (ea_bd (m 278 (Int32.toNatClampNeg x3)) fun x4 =>
  if x4 < p1 then
  some (0, m)
  else
  ea_bd (m 272 10) fun x5 =>
  ea_g x5 400 (ea_bd (m 278 (Int32.toNatClampNeg x5)) fun x6 =>
  if p2 < x6 then
  some (0, m)
  else
  some (1, m)))
set_option maxHeartbeats 300000 in
theorem ok_X12_isAt (G : ea_G) (p1 : Int32) (p2 : Int32) (m : ea_M)  (rZ : Int32) (mZ : ea_M) (hZ : f_X12_isAt p1 p2 m = some (rZ, mZ)) : ea_Met G yX12_isAt F_X12_isAt [.ref 272, .int p1, .int p2] m (0, rZ, mZ) := by
  refine ea_met (F := F_X12_isAt) (by decide +kernel) rfl rfl (Nat.le_of_ble_eq_true rfl) (by simp only [List.mem_cons, List.not_mem_nil, or_false]; intro v hv; rcases hv with rfl | rfl | rfl <;> rfl) ((?_ : ea_E G F_X12_isAt (0, rZ, mZ) 0 [some (.ref 272), some (.int p1), some (.int p2)] [] m 0 0 (f_X12_isAt p1 p2 m) (fun t => t = (rZ, mZ))) (rZ, mZ) hZ rfl)
  have hR : ∀ t : Int32 × ea_M, t = (rZ, mZ) → ((0, rZ, mZ) : ea_O) = (0, t) := fun t h => by rw [h]
  unfold f_X12_isAt
  refine ev_aload_n (ea_at dt_X12_isAt 0 rfl) rfl ?_
  refine ev_getI (ea_at dt_X12_isAt 1 rfl) fl_X12_92 sh_272 rfl ?_
  refine ev_i (fun x1 => ?_)
  refine ev_aload_n (ea_at dt_X12_isAt 2 rfl) rfl ?_
  refine ev_getI (ea_at dt_X12_isAt 3 rfl) fl_X12_95 sh_272 rfl ?_
  refine ev_i (fun x2 => ?_)
  refine ev_icmp_ge (tgt := 41) (ea_at dt_X12_isAt 4 rfl) rfl (fun _ => ?_) (fun _ => ?_)
  · refine ev_iconst (ea_at dt_X12_isAt 21 rfl) ic_0 ?_
    exact ev_zret (by decide) (ea_at dt_X12_isAt 22 rfl) rfl ⟨by decide, by decide⟩ (fun h => hR _ h)
  · refine ev_aload_n (ea_at dt_X12_isAt 5 rfl) rfl ?_
    refine ev_getR (ea_at dt_X12_isAt 6 rfl) fl_X12_29 sh_272 rfl ?_
    refine ev_aload_n (ea_at dt_X12_isAt 7 rfl) rfl ?_
    refine ev_getI (ea_at dt_X12_isAt 8 rfl) fl_X12_92 sh_272 rfl ?_
    refine ev_i (fun x3 => ?_)
    refine ev_baload (ea_at dt_X12_isAt 9 rfl) sh_278 ?_
    refine ev_i (fun x4 => ?_)
    refine ev_iload_n (ea_at dt_X12_isAt 10 rfl) rfl ?_
    refine ev_icmp_lt (tgt := 41) (ea_at dt_X12_isAt 11 rfl) rfl (fun _ => ?_) (fun _ => ?_)
    · refine ev_iconst (ea_at dt_X12_isAt 21 rfl) ic_0 ?_
      exact ev_zret (by decide) (ea_at dt_X12_isAt 22 rfl) rfl ⟨by decide, by decide⟩ (fun h => hR _ h)
    · refine ev_aload_n (ea_at dt_X12_isAt 12 rfl) rfl ?_
      refine ev_getR (ea_at dt_X12_isAt 13 rfl) fl_X12_29 sh_272 rfl ?_
      refine ev_aload_n (ea_at dt_X12_isAt 14 rfl) rfl ?_
      refine ev_getI (ea_at dt_X12_isAt 15 rfl) fl_X12_92 sh_272 rfl ?_
      refine ev_i (fun x5 => ?_)
      refine ev_baload (ea_at dt_X12_isAt 16 rfl) sh_278 ?_
      refine ev_i (fun x6 => ?_)
      refine ev_iload_n (ea_at dt_X12_isAt 17 rfl) rfl ?_
      refine ev_icmp_gt (tgt := 41) (ea_at dt_X12_isAt 18 rfl) rfl (fun _ => ?_) (fun _ => ?_)
      · refine ev_iconst (ea_at dt_X12_isAt 21 rfl) ic_0 ?_
        exact ev_zret (by decide) (ea_at dt_X12_isAt 22 rfl) rfl ⟨by decide, by decide⟩ (fun h => hR _ h)
      · refine ev_iconst (ea_at dt_X12_isAt 19 rfl) ic_1 ?_
        refine ev_goto (tgt := 42) (ea_at dt_X12_isAt 20 rfl) rfl ?_
        exact ev_zret (by decide) (ea_at dt_X12_isAt 22 rfl) rfl ⟨by decide, by decide⟩ (fun h => hR _ h)
def F_X12_blanks : ea_F := (ea_rm 9 0 0, cX12_blanks, RX12, none, 1, [], 0, 0)
def D_X12_blanks : List (Nat × Instr × Nat) := [(0, .aload_n 0, 1), (1, .bipush 32, 2), (3, .bipush 32, 2), (5, .invokevirtual 98, 3), (8, .ifCond .eq 16, 3), (11, .aload_n 0, 1), (12, .dup, 1), (13, .getfield 92, 3), (16, .iconst 1, 1), (17, .iadd, 1), (18, .putfield 92, 3), (21, .goto (-21), 3), (24, .aload_n 0, 1), (25, .aload_n 0, 1), (26, .getfield 92, 3), (29, .putfield 102, 3), (32, .return_, 1)]
theorem dt_X12_blanks : ∀ q ∈ D_X12_blanks, decode cX12_blanks q.1 = .ok q.2 := by decide +kernel
theorem mv_X12_blanks : ea_MV yX12_blanks (F_X12_blanks) 0 := ⟨⟨List.mem_append_right _ (List.mem_of_getElem? (i := 13) (by decide +kernel)), List.mem_append_right _ (List.mem_of_getElem? (i := 1536) (by decide +kernel)), ⟨by decide, by decide⟩, by decide +kernel⟩, List.mem_append_right _ (List.mem_of_getElem? (i := 1535) (by decide +kernel)), List.mem_append_left _ (List.mem_of_getElem? (i := 44) (by decide +kernel))⟩
def f_X12_blanks_s0  (s0 : ea_M) : Option ((ea_M) ⊕ (ea_M)) :=
  ea_cl (f_X12_isAt 32 32 s0) fun r2 m1 =>
  if r2 = 0 then
  some (.inr m1)
  else
  ea_bd (m1 272 10) fun x3 =>
  ea_bd (ea_st m1 272 10 (x3 + 1)) fun m4 =>
  some (.inl m4)
def f_X12_blanks (m : ea_M) : Option (Int32 × ea_M) :=
  (ea_loop f_X12_blanks_s0 ea_fuel m).bind (fun x0s =>
  ea_bd (x0s 272 10) fun x5 =>
  ea_bd (ea_st x0s 272 12 x5) fun m6 =>
  some (0, m6))
set_option maxHeartbeats 300000 in
theorem lp_X12_blanks_0 (G : ea_G) {res : ea_O}    {Ψ : ea_M → Prop} (hX : ∀ x0s : ea_M, Ψ x0s → ea_Ev G F_X12_blanks res 24 [some (.ref 272)] [] x0s 0 0) : ∀ (f : Nat) (s0 : ea_M), ea_E G F_X12_blanks res 0 [some (.ref 272)] [] s0 0 0 (ea_loop f_X12_blanks_s0 f s0) Ψ := by
  refine ev_loop (G := G) (F := F_X12_blanks) (res := res) (pc := 0) (st := []) (k := 0) (n := 0) (step := f_X12_blanks_s0) (Ψ := Ψ) (fun (s0 : ea_M) => [some (.ref 272)]) (fun (s0 : ea_M) => s0) (fun s0 => ?_)
  have hC : ∀ s0 : ea_M, (Sum.elim (fun s0 : ea_M => ea_Ev G F_X12_blanks res 0 [some (.ref 272)] [] s0 0 0) Ψ) (.inl s0) → ea_Ev G F_X12_blanks res 0 [some (.ref 272)] [] s0 0 0 := fun _ h => h
  have hX : ∀ x0s : ea_M, (Sum.elim (fun s0 : ea_M => ea_Ev G F_X12_blanks res 0 [some (.ref 272)] [] s0 0 0) Ψ) (.inr x0s) → ea_Ev G F_X12_blanks res 24 [some (.ref 272)] [] x0s 0 0 := hX
  unfold f_X12_blanks_s0
  refine ev_aload_n (ea_at dt_X12_blanks 0 rfl) rfl ?_
  refine ev_bipush (ea_at dt_X12_blanks 1 rfl) bp_32 ?_
  refine ev_bipush (ea_at dt_X12_blanks 2 rfl) bp_32 ?_
  refine ev_clI (F1 := F_X12_isAt) (fun rY mY hY => ea_runV (As := [.int 32, .int 32]) (ea_at dt_X12_blanks 3 rfl) ml_X12_98 mv_X12_isAt (ok_X12_isAt G 32 32 s0  rY mY hY) sh_272 rfl rfl rfl (Nat.le_of_ble_eq_true rfl) rfl) rfl (fun r2 m1 => ?_)
  refine ev_if_eq (tgt := 24) (ea_at dt_X12_blanks 4 rfl) rfl (fun _ => ?_) (fun _ => ?_)
  · exact ev_leaf (fun h => ea_drop (l' := [some (.ref 272)]) ⟨Or.inr rfl, trivial⟩ (hX m1 h))
  · refine ev_aload_n (ea_at dt_X12_blanks 5 rfl) rfl ?_
    refine ev_dup (ea_at dt_X12_blanks 6 rfl) rfl ?_
    refine ev_getI (ea_at dt_X12_blanks 7 rfl) fl_X12_92 sh_272 rfl ?_
    refine ev_i (fun x3 => ?_)
    refine ev_iconst (ea_at dt_X12_blanks 8 rfl) ic_1 ?_
    refine ev_iadd (ea_at dt_X12_blanks 9 rfl) ?_
    refine ev_putI (ea_at dt_X12_blanks 10 rfl) fl_X12_92 fp_12_10 sh_272 rfl ?_
    refine ev_m (fun m4 => ?_)
    refine ev_goto (tgt := 0) (ea_at dt_X12_blanks 11 rfl) rfl ?_
    exact ev_leaf (fun h => ea_drop (l' := [some (.ref 272)]) ⟨Or.inr rfl, trivial⟩ (hC m4 h))
set_option maxHeartbeats 300000 in
theorem ok_X12_blanks (G : ea_G) (m : ea_M)  (rZ : Int32) (mZ : ea_M) (hZ : f_X12_blanks m = some (rZ, mZ)) : ea_Met G yX12_blanks F_X12_blanks [.ref 272] m (0, rZ, mZ) := by
  refine ea_met (F := F_X12_blanks) (by decide +kernel) rfl rfl (Nat.le_of_ble_eq_true rfl) (by simp only [List.mem_cons, List.not_mem_nil, or_false]; intro v hv; rcases hv with rfl <;> rfl) ((?_ : ea_E G F_X12_blanks (0, rZ, mZ) 0 [some (.ref 272)] [] m 0 0 (f_X12_blanks m) (fun t => t = (rZ, mZ))) (rZ, mZ) hZ rfl)
  have hR : ∀ t : Int32 × ea_M, t = (rZ, mZ) → ((0, rZ, mZ) : ea_O) = (0, t) := fun t h => by rw [h]
  unfold f_X12_blanks
  refine ev_drop (l' := [some (.ref 272)]) ⟨Or.inr rfl, trivial⟩ ?_
  refine ev_bind (lp_X12_blanks_0 G   (fun x0s h => ?_) ea_fuel m)
  obtain ⟨t1, e1, q1⟩ := h
  refine (?_ : ea_E G F_X12_blanks (0, rZ, mZ) 24 [some (.ref 272)] [] x0s 0 0 _ (fun t => t = (rZ, mZ))) t1 e1 q1
  refine ev_aload_n (ea_at dt_X12_blanks 12 rfl) rfl ?_
  refine ev_aload_n (ea_at dt_X12_blanks 13 rfl) rfl ?_
  refine ev_getI (ea_at dt_X12_blanks 14 rfl) fl_X12_92 sh_272 rfl ?_
  refine ev_i (fun x5 => ?_)
  refine ev_putI (ea_at dt_X12_blanks 15 rfl) fl_X12_102 fp_12_12 sh_272 rfl ?_
  refine ev_m (fun m6 => ?_)
  exact ev_vret (ea_at dt_X12_blanks 16 rfl) rfl ⟨by decide, by decide⟩ (fun h => ⟨0, hR _ h⟩)
def F_X12_letters : ea_F := (ea_rm 10 0 0, cX12_letters, RX12, none, 1, [], 0, 0)
def D_X12_letters : List (Nat × Instr × Nat) := [(0, .aload_n 0, 1), (1, .invokevirtual 105, 3), (4, .aload_n 0, 1), (5, .bipush 97, 2), (7, .bipush 122, 2), (9, .invokevirtual 98, 3), (12, .ifCond .eq 16, 3), (15, .aload_n 0, 1), (16, .dup, 1), (17, .getfield 92, 3), (20, .iconst 1, 1), (21, .iadd, 1), (22, .putfield 92, 3), (25, .goto (-21), 3), (28, .return_, 1)]
theorem dt_X12_letters : ∀ q ∈ D_X12_letters, decode cX12_letters q.1 = .ok q.2 := by decide +kernel
theorem mv_X12_letters : ea_MV yX12_letters (F_X12_letters) 0 := ⟨⟨List.mem_append_right _ (List.mem_of_getElem? (i := 13) (by decide +kernel)), List.mem_append_right _ (List.mem_of_getElem? (i := 1548) (by decide +kernel)), ⟨by decide, by decide⟩, by decide +kernel⟩, List.mem_append_right _ (List.mem_of_getElem? (i := 1547) (by decide +kernel)), List.mem_append_left _ (List.mem_of_getElem? (i := 47) (by decide +kernel))⟩
def f_X12_letters_s4  (s4 : ea_M) : Option ((ea_M) ⊕ (ea_M)) :=
  ea_cl (f_X12_isAt 97 122 s4) fun r4 m3 =>
  if r4 = 0 then
  some (.inr m3)
  else
  ea_bd (m3 272 10) fun x5 =>
  ea_bd (ea_st m3 272 10 (x5 + 1)) fun m6 =>
  some (.inl m6)
def f_X12_letters (m : ea_M) : Option (Int32 × ea_M) :=
  ea_cl (f_X12_blanks m) fun r2 m1 =>
  (ea_loop f_X12_letters_s4 ea_fuel m1).bind (fun x4s =>
  some (0, x4s))
set_option maxHeartbeats 300000 in
theorem lp_X12_letters_4 (G : ea_G) {res : ea_O}    {Ψ : ea_M → Prop} (hX : ∀ x4s : ea_M, Ψ x4s → ea_Ev G F_X12_letters res 28 [none] [] x4s 0 0) : ∀ (f : Nat) (s4 : ea_M), ea_E G F_X12_letters res 4 [some (.ref 272)] [] s4 0 0 (ea_loop f_X12_letters_s4 f s4) Ψ := by
  refine ev_loop (G := G) (F := F_X12_letters) (res := res) (pc := 4) (st := []) (k := 0) (n := 0) (step := f_X12_letters_s4) (Ψ := Ψ) (fun (s4 : ea_M) => [some (.ref 272)]) (fun (s4 : ea_M) => s4) (fun s4 => ?_)
  have hC : ∀ s4 : ea_M, (Sum.elim (fun s4 : ea_M => ea_Ev G F_X12_letters res 4 [some (.ref 272)] [] s4 0 0) Ψ) (.inl s4) → ea_Ev G F_X12_letters res 4 [some (.ref 272)] [] s4 0 0 := fun _ h => h
  have hX : ∀ x4s : ea_M, (Sum.elim (fun s4 : ea_M => ea_Ev G F_X12_letters res 4 [some (.ref 272)] [] s4 0 0) Ψ) (.inr x4s) → ea_Ev G F_X12_letters res 28 [none] [] x4s 0 0 := hX
  unfold f_X12_letters_s4
  refine ev_aload_n (ea_at dt_X12_letters 2 rfl) rfl ?_
  refine ev_bipush (ea_at dt_X12_letters 3 rfl) bp_97 ?_
  refine ev_bipush (ea_at dt_X12_letters 4 rfl) bp_122 ?_
  refine ev_clI (F1 := F_X12_isAt) (fun rY mY hY => ea_runV (As := [.int 97, .int 122]) (ea_at dt_X12_letters 5 rfl) ml_X12_98 mv_X12_isAt (ok_X12_isAt G 97 122 s4  rY mY hY) sh_272 rfl rfl rfl (Nat.le_of_ble_eq_true rfl) rfl) rfl (fun r4 m3 => ?_)
  refine ev_if_eq (tgt := 28) (ea_at dt_X12_letters 6 rfl) rfl (fun _ => ?_) (fun _ => ?_)
  · exact ev_leaf (fun h => ea_drop (l' := [none]) ⟨Or.inl rfl, trivial⟩ (hX m3 h))
  · refine ev_aload_n (ea_at dt_X12_letters 7 rfl) rfl ?_
    refine ev_dup (ea_at dt_X12_letters 8 rfl) rfl ?_
    refine ev_getI (ea_at dt_X12_letters 9 rfl) fl_X12_92 sh_272 rfl ?_
    refine ev_i (fun x5 => ?_)
    refine ev_iconst (ea_at dt_X12_letters 10 rfl) ic_1 ?_
    refine ev_iadd (ea_at dt_X12_letters 11 rfl) ?_
    refine ev_putI (ea_at dt_X12_letters 12 rfl) fl_X12_92 fp_12_10 sh_272 rfl ?_
    refine ev_m (fun m6 => ?_)
    refine ev_goto (tgt := 4) (ea_at dt_X12_letters 13 rfl) rfl ?_
    exact ev_leaf (fun h => ea_drop (l' := [some (.ref 272)]) ⟨Or.inr rfl, trivial⟩ (hC m6 h))
set_option maxHeartbeats 300000 in
theorem ok_X12_letters (G : ea_G) (m : ea_M)  (rZ : Int32) (mZ : ea_M) (hZ : f_X12_letters m = some (rZ, mZ)) : ea_Met G yX12_letters F_X12_letters [.ref 272] m (0, rZ, mZ) := by
  refine ea_met (F := F_X12_letters) (by decide +kernel) rfl rfl (Nat.le_of_ble_eq_true rfl) (by simp only [List.mem_cons, List.not_mem_nil, or_false]; intro v hv; rcases hv with rfl <;> rfl) ((?_ : ea_E G F_X12_letters (0, rZ, mZ) 0 [some (.ref 272)] [] m 0 0 (f_X12_letters m) (fun t => t = (rZ, mZ))) (rZ, mZ) hZ rfl)
  have hR : ∀ t : Int32 × ea_M, t = (rZ, mZ) → ((0, rZ, mZ) : ea_O) = (0, t) := fun t h => by rw [h]
  unfold f_X12_letters
  refine ev_aload_n (ea_at dt_X12_letters 0 rfl) rfl ?_
  refine ev_clU (F1 := F_X12_blanks) (fun rY mY hY => ea_runV (As := []) (ea_at dt_X12_letters 1 rfl) ml_X12_105 mv_X12_blanks (ok_X12_blanks G m  rY mY hY) sh_272 rfl rfl rfl (Nat.le_of_ble_eq_true rfl) rfl) rfl (fun r2 m1 => ?_)
  refine ev_drop (l' := [some (.ref 272)]) ⟨Or.inr rfl, trivial⟩ ?_
  refine ev_bind (lp_X12_letters_4 G   (fun x4s h => ?_) ea_fuel m1)
  obtain ⟨t1, e1, q1⟩ := h
  refine (?_ : ea_E G F_X12_letters (0, rZ, mZ) 28 [none] [] x4s 0 0 _ (fun t => t = (rZ, mZ))) t1 e1 q1
  exact ev_vret (ea_at dt_X12_letters 14 rfl) rfl ⟨by decide, by decide⟩ (fun h => ⟨0, hR _ h⟩)
def F_X12_isWord : ea_F := (ea_rm 13 0 0, cX12_isWord, RX12, some .boolean, 4, [], 0, 0)
def D_X12_isWord : List (Nat × Instr × Nat) := [(0, .aload_n 0, 1), (1, .getfield 92, 3), (4, .aload_n 0, 1), (5, .getfield 102, 3), (8, .isub, 1), (9, .aload_n 1, 1), (10, .invokevirtual 108, 3), (13, .if_icmp .ne 7, 3), (16, .iconst 1, 1), (17, .goto 4, 3), (20, .iconst 0, 1), (21, .istore_n 2, 1), (22, .iconst 0, 1), (23, .istore_n 3, 1), (24, .iload_n 2, 1), (25, .ifCond .eq 42, 3), (28, .iload_n 3, 1), (29, .aload_n 1, 1), (30, .invokevirtual 108, 3), (33, .if_icmp .ge 34, 3), (36, .aload_n 0, 1), (37, .getfield 29, 3), (40, .aload_n 0, 1), (41, .getfield 102, 3), (44, .iload_n 3, 1), (45, .iadd, 1), (46, .baload, 1), (47, .aload_n 1, 1), (48, .iload_n 3, 1), (49, .invokevirtual 113, 3), (52, .if_icmp .ne 7, 3), (55, .iconst 1, 1), (56, .goto 4, 3), (59, .iconst 0, 1), (60, .istore_n 2, 1), (61, .iinc 3 1, 3), (64, .goto (-40), 3), (67, .iload_n 2, 1), (68, .ireturn, 1)]
theorem dt_X12_isWord : ∀ q ∈ D_X12_isWord, decode cX12_isWord q.1 = .ok q.2 := by decide +kernel
theorem mv_X12_isWord : ea_MV yX12_isWord (F_X12_isWord) 1 := ⟨⟨List.mem_append_right _ (List.mem_of_getElem? (i := 13) (by decide +kernel)), List.mem_append_right _ (List.mem_of_getElem? (i := 1557) (by decide +kernel)), ⟨by decide, by decide⟩, by decide +kernel⟩, List.mem_append_right _ (List.mem_of_getElem? (i := 1556) (by decide +kernel)), List.mem_append_left _ (List.mem_of_getElem? (i := 49) (by decide +kernel))⟩
def f_X12_isWord_j60 (p1 : Nat) (x13 : Int32) (x14 : Int32) (m15 : ea_M) : Option ((Int32 × Int32 × ea_M) ⊕ (Int32 × ea_M)) :=
  some (.inl (x14, x13 + 1, m15))
def f_X12_isWord_s24 (p1 : Nat)  (s24 : Int32 × Int32 × ea_M) : Option ((Int32 × Int32 × ea_M) ⊕ (Int32 × ea_M)) :=
  if s24.1 = 0 then
  some (.inr (s24.1, s24.2.2))
  else
  ea_cl (ea_slen p1 s24.2.2) fun r8 m7 =>
  if r8 ≤ s24.2.1 then
  some (.inr (s24.1, m7))
  else
  ea_bd (m7 272 12) fun x9 =>
  ea_g (x9 + s24.2.1) 400 (ea_bd (m7 278 (Int32.toNatClampNeg (x9 + s24.2.1))) fun x10 =>
  ea_cl (ea_schr p1 s24.2.1 m7) fun r12 m11 =>
  if x10 = r12 then
  f_X12_isWord_j60 p1 s24.2.1 1 m11
  else
  f_X12_isWord_j60 p1 s24.2.1 0 m11)
def f_X12_isWord_j21 (p1 : Nat) (x5 : Int32) (m6 : ea_M) : Option (Int32 × ea_M) :=
  (ea_loop (f_X12_isWord_s24 p1) ea_fuel (x5, 0, m6)).bind (fun x24s =>
  ea_gz x24s.1 (some (x24s.1, x24s.2)))
def f_X12_isWord (p1 : Nat) (m : ea_M) : Option (Int32 × ea_M) :=
  ea_bd (m 272 10) fun x1 =>
  ea_bd (m 272 12) fun x2 =>
  ea_cl (ea_slen p1 m) fun r4 m3 =>
  if (x1 - x2) = r4 then
  f_X12_isWord_j21 p1 1 m3
  else
  f_X12_isWord_j21 p1 0 m3
set_option maxHeartbeats 300000 in
theorem jn_X12_isWord_60 (G : ea_G) {res : ea_O}  (p1 : Nat) (x13 : Int32) (x14 : Int32) (m15 : ea_M) (hp1 : p1 < ea_str.length) {Φ : ((Int32 × Int32 × ea_M) ⊕ (Int32 × ea_M)) → Prop} (hC : ∀ s24 : Int32 × Int32 × ea_M, Φ (.inl s24) → ea_Ev G F_X12_isWord res 24 [some (.ref 272), some (.ref (1000 + p1)), some (.int s24.1), some (.int s24.2.1)] [] s24.2.2 0 0) (hX : ∀ x24s : Int32 × ea_M, Φ (.inr x24s) → ea_Ev G F_X12_isWord res 67 [none, none, some (.int x24s.1), none] [] x24s.2 0 0) : ea_E G F_X12_isWord res 60 [some (.ref 272), some (.ref (1000 + p1)), none, some (.int x13)] [.int x14] m15 0 0 (f_X12_isWord_j60 p1 x13 x14 m15) Φ := by
  unfold f_X12_isWord_j60
  refine ev_istore_n (ls' := [some (.ref 272), some (.ref (1000 + p1)), some (.int x14), some (.int x13)]) (ea_at dt_X12_isWord 34 rfl) (ea_lt rfl) rfl ?_
  refine ev_iinc (ls' := [some (.ref 272), some (.ref (1000 + p1)), some (.int x14), some (.int (x13 + 1))]) (ea_at dt_X12_isWord 35 rfl) rfl (congrArg (fun z => _ + z) ic_1) (ea_lt rfl) rfl ?_
  refine ev_goto (tgt := 24) (ea_at dt_X12_isWord 36 rfl) rfl ?_
  exact ev_leaf (fun h => ea_drop (l' := [some (.ref 272), some (.ref (1000 + p1)), some (.int x14), some (.int (x13 + 1))]) ⟨Or.inr rfl, Or.inr rfl, Or.inr rfl, Or.inr rfl, trivial⟩ (hC (x14, x13 + 1, m15) h))
set_option maxHeartbeats 300000 in
theorem lp_X12_isWord_24 (G : ea_G) {res : ea_O}  (p1 : Nat) (hp1 : p1 < ea_str.length) {Ψ : (Int32 × ea_M) → Prop} (hX : ∀ x24s : Int32 × ea_M, Ψ x24s → ea_Ev G F_X12_isWord res 67 [none, none, some (.int x24s.1), none] [] x24s.2 0 0) : ∀ (f : Nat) (s24 : Int32 × Int32 × ea_M), ea_E G F_X12_isWord res 24 [some (.ref 272), some (.ref (1000 + p1)), some (.int s24.1), some (.int s24.2.1)] [] s24.2.2 0 0 (ea_loop (f_X12_isWord_s24 p1) f s24) Ψ := by
  refine ev_loop (G := G) (F := F_X12_isWord) (res := res) (pc := 24) (st := []) (k := 0) (n := 0) (step := (f_X12_isWord_s24 p1)) (Ψ := Ψ) (fun (s24 : Int32 × Int32 × ea_M) => [some (.ref 272), some (.ref (1000 + p1)), some (.int s24.1), some (.int s24.2.1)]) (fun (s24 : Int32 × Int32 × ea_M) => s24.2.2) (fun s24 => ?_)
  have hC : ∀ s24 : Int32 × Int32 × ea_M, (Sum.elim (fun s24 : Int32 × Int32 × ea_M => ea_Ev G F_X12_isWord res 24 [some (.ref 272), some (.ref (1000 + p1)), some (.int s24.1), some (.int s24.2.1)] [] s24.2.2 0 0) Ψ) (.inl s24) → ea_Ev G F_X12_isWord res 24 [some (.ref 272), some (.ref (1000 + p1)), some (.int s24.1), some (.int s24.2.1)] [] s24.2.2 0 0 := fun _ h => h
  have hX : ∀ x24s : Int32 × ea_M, (Sum.elim (fun s24 : Int32 × Int32 × ea_M => ea_Ev G F_X12_isWord res 24 [some (.ref 272), some (.ref (1000 + p1)), some (.int s24.1), some (.int s24.2.1)] [] s24.2.2 0 0) Ψ) (.inr x24s) → ea_Ev G F_X12_isWord res 67 [none, none, some (.int x24s.1), none] [] x24s.2 0 0 := hX
  unfold f_X12_isWord_s24
  refine ev_iload_n (ea_at dt_X12_isWord 14 rfl) rfl ?_
  refine ev_if_eq (tgt := 67) (ea_at dt_X12_isWord 15 rfl) rfl (fun _ => ?_) (fun _ => ?_)
  · exact ev_leaf (fun h => ea_drop (l' := [none, none, some (.int s24.1), none]) ⟨Or.inl rfl, Or.inl rfl, Or.inr rfl, Or.inl rfl, trivial⟩ (hX (s24.1, s24.2.2) h))
  · refine ev_iload_n (ea_at dt_X12_isWord 16 rfl) rfl ?_
    refine ev_aload_n (ea_at dt_X12_isWord 17 rfl) rfl ?_
    refine ev_clI (F1 := F_J0_length_8abf5) (fun rY mY hY => ea_runVS (As := []) (ea_at dt_X12_isWord 18 rfl) ml_X12_108 mv_J0_length_8abf5 (ok_ea_slen G p1 s24.2.2 hp1 rY mY hY) hp1 rfl rfl (Nat.le_of_ble_eq_true rfl) rfl) rfl (fun r8 m7 => ?_)
    refine ev_icmp_ge (tgt := 67) (ea_at dt_X12_isWord 19 rfl) rfl (fun _ => ?_) (fun _ => ?_)
    · exact ev_leaf (fun h => ea_drop (l' := [none, none, some (.int s24.1), none]) ⟨Or.inl rfl, Or.inl rfl, Or.inr rfl, Or.inl rfl, trivial⟩ (hX (s24.1, m7) h))
    · refine ev_aload_n (ea_at dt_X12_isWord 20 rfl) rfl ?_
      refine ev_getR (ea_at dt_X12_isWord 21 rfl) fl_X12_29 sh_272 rfl ?_
      refine ev_aload_n (ea_at dt_X12_isWord 22 rfl) rfl ?_
      refine ev_getI (ea_at dt_X12_isWord 23 rfl) fl_X12_102 sh_272 rfl ?_
      refine ev_i (fun x9 => ?_)
      refine ev_iload_n (ea_at dt_X12_isWord 24 rfl) rfl ?_
      refine ev_iadd (ea_at dt_X12_isWord 25 rfl) ?_
      refine ev_baload (ea_at dt_X12_isWord 26 rfl) sh_278 ?_
      refine ev_i (fun x10 => ?_)
      refine ev_aload_n (ea_at dt_X12_isWord 27 rfl) rfl ?_
      refine ev_iload_n (ea_at dt_X12_isWord 28 rfl) rfl ?_
      refine ev_clI (F1 := F_J0_charAt_5068e) (fun rY mY hY => ea_runVS (As := [.int s24.2.1]) (ea_at dt_X12_isWord 29 rfl) ml_X12_113 mv_J0_charAt_5068e (ok_ea_schr G p1 s24.2.1 m7 hp1 rY mY hY) hp1 rfl rfl (Nat.le_of_ble_eq_true rfl) rfl) rfl (fun r12 m11 => ?_)
      refine ev_icmp_ne (tgt := 59) (ea_at dt_X12_isWord 30 rfl) rfl (fun _ => ?_) (fun _ => ?_)
      · refine ev_iconst (ea_at dt_X12_isWord 31 rfl) ic_1 ?_
        refine ev_goto (tgt := 60) (ea_at dt_X12_isWord 32 rfl) rfl ?_
        exact ev_drop (l' := [some (.ref 272), some (.ref (1000 + p1)), none, some (.int s24.2.1)]) ⟨Or.inr rfl, Or.inr rfl, Or.inl rfl, Or.inr rfl, trivial⟩ (jn_X12_isWord_60 G p1 s24.2.1 1 m11 hp1 hC hX)
      · refine ev_iconst (ea_at dt_X12_isWord 33 rfl) ic_0 ?_
        exact ev_drop (l' := [some (.ref 272), some (.ref (1000 + p1)), none, some (.int s24.2.1)]) ⟨Or.inr rfl, Or.inr rfl, Or.inl rfl, Or.inr rfl, trivial⟩ (jn_X12_isWord_60 G p1 s24.2.1 0 m11 hp1 hC hX)
set_option maxHeartbeats 300000 in
theorem jn_X12_isWord_21 (G : ea_G) {res : ea_O}  (p1 : Nat) (x5 : Int32) (m6 : ea_M) (hp1 : p1 < ea_str.length) {Φ : (Int32 × ea_M) → Prop} (hR : ∀ t : Int32 × ea_M, Φ t → res = (0, t)) : ea_E G F_X12_isWord res 21 [some (.ref 272), some (.ref (1000 + p1)), none, none] [.int x5] m6 0 0 (f_X12_isWord_j21 p1 x5 m6) Φ := by
  unfold f_X12_isWord_j21
  refine ev_istore_n (ls' := [some (.ref 272), some (.ref (1000 + p1)), some (.int x5), none]) (ea_at dt_X12_isWord 11 rfl) (ea_lt rfl) rfl ?_
  refine ev_iconst (ea_at dt_X12_isWord 12 rfl) ic_0 ?_
  refine ev_istore_n (ls' := [some (.ref 272), some (.ref (1000 + p1)), some (.int x5), some (.int 0)]) (ea_at dt_X12_isWord 13 rfl) (ea_lt rfl) rfl ?_
  refine ev_drop (l' := [some (.ref 272), some (.ref (1000 + p1)), some (.int x5), some (.int 0)]) ⟨Or.inr rfl, Or.inr rfl, Or.inr rfl, Or.inr rfl, trivial⟩ ?_
  refine ev_bind (lp_X12_isWord_24 G p1 hp1  (fun x24s h => ?_) ea_fuel (x5, 0, m6))
  obtain ⟨t1, e1, q1⟩ := h
  refine (?_ : ea_E G F_X12_isWord res 67 [none, none, some (.int x24s.1), none] [] x24s.2 0 0 _ Φ) t1 e1 q1
  refine ev_iload_n (ea_at dt_X12_isWord 37 rfl) rfl ?_
  exact ev_zretG (ea_at dt_X12_isWord 38 rfl) rfl ⟨by decide, by decide⟩ (fun h => hR _ h)
set_option maxHeartbeats 300000 in
theorem ok_X12_isWord (G : ea_G) (p1 : Nat) (m : ea_M) (hp1 : p1 < ea_str.length) (rZ : Int32) (mZ : ea_M) (hZ : f_X12_isWord p1 m = some (rZ, mZ)) : ea_Met G yX12_isWord F_X12_isWord [.ref 272, .ref (1000 + p1)] m (0, rZ, mZ) := by
  refine ea_met (F := F_X12_isWord) (by decide +kernel) rfl rfl (Nat.le_of_ble_eq_true rfl) (by simp only [List.mem_cons, List.not_mem_nil, or_false]; intro v hv; rcases hv with rfl | rfl <;> rfl) ((?_ : ea_E G F_X12_isWord (0, rZ, mZ) 0 [some (.ref 272), some (.ref (1000 + p1)), none, none] [] m 0 0 (f_X12_isWord p1 m) (fun t => t = (rZ, mZ))) (rZ, mZ) hZ rfl)
  have hR : ∀ t : Int32 × ea_M, t = (rZ, mZ) → ((0, rZ, mZ) : ea_O) = (0, t) := fun t h => by rw [h]
  unfold f_X12_isWord
  refine ev_aload_n (ea_at dt_X12_isWord 0 rfl) rfl ?_
  refine ev_getI (ea_at dt_X12_isWord 1 rfl) fl_X12_92 sh_272 rfl ?_
  refine ev_i (fun x1 => ?_)
  refine ev_aload_n (ea_at dt_X12_isWord 2 rfl) rfl ?_
  refine ev_getI (ea_at dt_X12_isWord 3 rfl) fl_X12_102 sh_272 rfl ?_
  refine ev_i (fun x2 => ?_)
  refine ev_isub (ea_at dt_X12_isWord 4 rfl) ?_
  refine ev_aload_n (ea_at dt_X12_isWord 5 rfl) rfl ?_
  refine ev_clI (F1 := F_J0_length_8abf5) (fun rY mY hY => ea_runVS (As := []) (ea_at dt_X12_isWord 6 rfl) ml_X12_108 mv_J0_length_8abf5 (ok_ea_slen G p1 m hp1 rY mY hY) hp1 rfl rfl (Nat.le_of_ble_eq_true rfl) rfl) rfl (fun r4 m3 => ?_)
  refine ev_icmp_ne (tgt := 20) (ea_at dt_X12_isWord 7 rfl) rfl (fun _ => ?_) (fun _ => ?_)
  · refine ev_iconst (ea_at dt_X12_isWord 8 rfl) ic_1 ?_
    refine ev_goto (tgt := 21) (ea_at dt_X12_isWord 9 rfl) rfl ?_
    exact ev_drop (l' := [some (.ref 272), some (.ref (1000 + p1)), none, none]) ⟨Or.inr rfl, Or.inr rfl, Or.inl rfl, Or.inl rfl, trivial⟩ (jn_X12_isWord_21 G p1 1 m3 hp1 hR)
  · refine ev_iconst (ea_at dt_X12_isWord 10 rfl) ic_0 ?_
    exact ev_drop (l' := [some (.ref 272), some (.ref (1000 + p1)), none, none]) ⟨Or.inr rfl, Or.inr rfl, Or.inl rfl, Or.inl rfl, trivial⟩ (jn_X12_isWord_21 G p1 0 m3 hp1 hR)
def F_X12_passes : ea_F := (ea_rm 14 0 0, cX12_passes, RX12, some .boolean, 2, [], 0, 0)
def D_X12_passes : List (Nat × Instr × Nat) := [(0, .aload_n 0, 1), (1, .invokevirtual 117, 3), (4, .aload_n 0, 1), (5, .aload_n 1, 1), (6, .invokevirtual 120, 3), (9, .ifCond .eq 5, 3), (12, .iconst 1, 1), (13, .ireturn, 1), (14, .aload_n 0, 1), (15, .aload_n 0, 1), (16, .getfield 102, 3), (19, .putfield 92, 3), (22, .iconst 0, 1), (23, .ireturn, 1)]
theorem dt_X12_passes : ∀ q ∈ D_X12_passes, decode cX12_passes q.1 = .ok q.2 := by decide +kernel
theorem mv_X12_passes : ea_MV yX12_passes (F_X12_passes) 1 := ⟨⟨List.mem_append_right _ (List.mem_of_getElem? (i := 13) (by decide +kernel)), List.mem_append_right _ (List.mem_of_getElem? (i := 1649) (by decide +kernel)), ⟨by decide, by decide⟩, by decide +kernel⟩, List.mem_append_right _ (List.mem_of_getElem? (i := 1648) (by decide +kernel)), List.mem_append_left _ (List.mem_of_getElem? (i := 64) (by decide +kernel))⟩
def f_X12_passes (p1 : Nat) (m : ea_M) : Option (Int32 × ea_M) :=
  ea_cl (f_X12_letters m) fun r2 m1 =>
  ea_cl (f_X12_isWord p1 m1) fun r4 m3 =>
  if r4 = 0 then
  ea_bd (m3 272 12) fun x5 =>
  ea_bd (ea_st m3 272 10 x5) fun m6 =>
  some (0, m6)
  else
  some (1, m3)
set_option maxHeartbeats 300000 in
theorem ok_X12_passes (G : ea_G) (p1 : Nat) (m : ea_M) (hp1 : p1 < ea_str.length) (rZ : Int32) (mZ : ea_M) (hZ : f_X12_passes p1 m = some (rZ, mZ)) : ea_Met G yX12_passes F_X12_passes [.ref 272, .ref (1000 + p1)] m (0, rZ, mZ) := by
  refine ea_met (F := F_X12_passes) (by decide +kernel) rfl rfl (Nat.le_of_ble_eq_true rfl) (by simp only [List.mem_cons, List.not_mem_nil, or_false]; intro v hv; rcases hv with rfl | rfl <;> rfl) ((?_ : ea_E G F_X12_passes (0, rZ, mZ) 0 [some (.ref 272), some (.ref (1000 + p1))] [] m 0 0 (f_X12_passes p1 m) (fun t => t = (rZ, mZ))) (rZ, mZ) hZ rfl)
  have hR : ∀ t : Int32 × ea_M, t = (rZ, mZ) → ((0, rZ, mZ) : ea_O) = (0, t) := fun t h => by rw [h]
  unfold f_X12_passes
  refine ev_aload_n (ea_at dt_X12_passes 0 rfl) rfl ?_
  refine ev_clU (F1 := F_X12_letters) (fun rY mY hY => ea_runV (As := []) (ea_at dt_X12_passes 1 rfl) ml_X12_117 mv_X12_letters (ok_X12_letters G m  rY mY hY) sh_272 rfl rfl rfl (Nat.le_of_ble_eq_true rfl) rfl) rfl (fun r2 m1 => ?_)
  refine ev_aload_n (ea_at dt_X12_passes 2 rfl) rfl ?_
  refine ev_aload_n (ea_at dt_X12_passes 3 rfl) rfl ?_
  refine ev_clI (F1 := F_X12_isWord) (fun rY mY hY => ea_runV (As := [.ref (1000 + p1)]) (ea_at dt_X12_passes 4 rfl) ml_X12_120 mv_X12_isWord (ok_X12_isWord G p1 m1 hp1 rY mY hY) sh_272 rfl rfl rfl (Nat.le_of_ble_eq_true rfl) rfl) rfl (fun r4 m3 => ?_)
  refine ev_if_eq (tgt := 14) (ea_at dt_X12_passes 5 rfl) rfl (fun _ => ?_) (fun _ => ?_)
  · refine ev_aload_n (ea_at dt_X12_passes 8 rfl) rfl ?_
    refine ev_aload_n (ea_at dt_X12_passes 9 rfl) rfl ?_
    refine ev_getI (ea_at dt_X12_passes 10 rfl) fl_X12_102 sh_272 rfl ?_
    refine ev_i (fun x5 => ?_)
    refine ev_putI (ea_at dt_X12_passes 11 rfl) fl_X12_92 fp_12_10 sh_272 rfl ?_
    refine ev_m (fun m6 => ?_)
    refine ev_iconst (ea_at dt_X12_passes 12 rfl) ic_0 ?_
    exact ev_zret (by decide) (ea_at dt_X12_passes 13 rfl) rfl ⟨by decide, by decide⟩ (fun h => hR _ h)
  · refine ev_iconst (ea_at dt_X12_passes 6 rfl) ic_1 ?_
    exact ev_zret (by decide) (ea_at dt_X12_passes 7 rfl) rfl ⟨by decide, by decide⟩ (fun h => hR _ h)
def F_X12_sign : ea_F := (ea_rm 10 0 0, cX12_sign, RX12, some .boolean, 2, [], 0, 0)
def D_X12_sign : List (Nat × Instr × Nat) := [(0, .aload_n 0, 1), (1, .invokevirtual 105, 3), (4, .aload_n 0, 1), (5, .iload_n 1, 1), (6, .iload_n 1, 1), (7, .invokevirtual 98, 3), (10, .ifCond .ne 5, 3), (13, .iconst 0, 1), (14, .ireturn, 1), (15, .aload_n 0, 1), (16, .dup, 1), (17, .getfield 92, 3), (20, .iconst 1, 1), (21, .iadd, 1), (22, .putfield 92, 3), (25, .iconst 1, 1), (26, .ireturn, 1)]
theorem dt_X12_sign : ∀ q ∈ D_X12_sign, decode cX12_sign q.1 = .ok q.2 := by decide +kernel
theorem mv_X12_sign : ea_MV yX12_sign (F_X12_sign) 1 := ⟨⟨List.mem_append_right _ (List.mem_of_getElem? (i := 13) (by decide +kernel)), List.mem_append_right _ (List.mem_of_getElem? (i := 1665) (by decide +kernel)), ⟨by decide, by decide⟩, by decide +kernel⟩, List.mem_append_right _ (List.mem_of_getElem? (i := 1664) (by decide +kernel)), List.mem_append_left _ (List.mem_of_getElem? (i := 68) (by decide +kernel))⟩
def f_X12_sign (p1 : Int32) (m : ea_M) : Option (Int32 × ea_M) :=
  ea_cl (f_X12_blanks m) fun r2 m1 =>
  ea_cl (f_X12_isAt p1 p1 m1) fun r4 m3 =>
  if r4 = 0 then
  some (0, m3)
  else
  ea_bd (m3 272 10) fun x5 =>
  ea_bd (ea_st m3 272 10 (x5 + 1)) fun m6 =>
  some (1, m6)
set_option maxHeartbeats 300000 in
theorem ok_X12_sign (G : ea_G) (p1 : Int32) (m : ea_M)  (rZ : Int32) (mZ : ea_M) (hZ : f_X12_sign p1 m = some (rZ, mZ)) : ea_Met G yX12_sign F_X12_sign [.ref 272, .int p1] m (0, rZ, mZ) := by
  refine ea_met (F := F_X12_sign) (by decide +kernel) rfl rfl (Nat.le_of_ble_eq_true rfl) (by simp only [List.mem_cons, List.not_mem_nil, or_false]; intro v hv; rcases hv with rfl | rfl <;> rfl) ((?_ : ea_E G F_X12_sign (0, rZ, mZ) 0 [some (.ref 272), some (.int p1)] [] m 0 0 (f_X12_sign p1 m) (fun t => t = (rZ, mZ))) (rZ, mZ) hZ rfl)
  have hR : ∀ t : Int32 × ea_M, t = (rZ, mZ) → ((0, rZ, mZ) : ea_O) = (0, t) := fun t h => by rw [h]
  unfold f_X12_sign
  refine ev_aload_n (ea_at dt_X12_sign 0 rfl) rfl ?_
  refine ev_clU (F1 := F_X12_blanks) (fun rY mY hY => ea_runV (As := []) (ea_at dt_X12_sign 1 rfl) ml_X12_105 mv_X12_blanks (ok_X12_blanks G m  rY mY hY) sh_272 rfl rfl rfl (Nat.le_of_ble_eq_true rfl) rfl) rfl (fun r2 m1 => ?_)
  refine ev_aload_n (ea_at dt_X12_sign 2 rfl) rfl ?_
  refine ev_iload_n (ea_at dt_X12_sign 3 rfl) rfl ?_
  refine ev_iload_n (ea_at dt_X12_sign 4 rfl) rfl ?_
  refine ev_clI (F1 := F_X12_isAt) (fun rY mY hY => ea_runV (As := [.int p1, .int p1]) (ea_at dt_X12_sign 5 rfl) ml_X12_98 mv_X12_isAt (ok_X12_isAt G p1 p1 m1  rY mY hY) sh_272 rfl rfl rfl (Nat.le_of_ble_eq_true rfl) rfl) rfl (fun r4 m3 => ?_)
  refine ev_if_ne (tgt := 15) (ea_at dt_X12_sign 6 rfl) rfl (fun _ => ?_) (fun _ => ?_)
  · refine ev_iconst (ea_at dt_X12_sign 7 rfl) ic_0 ?_
    exact ev_zret (by decide) (ea_at dt_X12_sign 8 rfl) rfl ⟨by decide, by decide⟩ (fun h => hR _ h)
  · refine ev_aload_n (ea_at dt_X12_sign 9 rfl) rfl ?_
    refine ev_dup (ea_at dt_X12_sign 10 rfl) rfl ?_
    refine ev_getI (ea_at dt_X12_sign 11 rfl) fl_X12_92 sh_272 rfl ?_
    refine ev_i (fun x5 => ?_)
    refine ev_iconst (ea_at dt_X12_sign 12 rfl) ic_1 ?_
    refine ev_iadd (ea_at dt_X12_sign 13 rfl) ?_
    refine ev_putI (ea_at dt_X12_sign 14 rfl) fl_X12_92 fp_12_10 sh_272 rfl ?_
    refine ev_m (fun m6 => ?_)
    refine ev_iconst (ea_at dt_X12_sign 15 rfl) ic_1 ?_
    exact ev_zret (by decide) (ea_at dt_X12_sign 16 rfl) rfl ⟨by decide, by decide⟩ (fun h => hR _ h)
def F_X12_number : ea_F := (ea_rm 10 0 0, cX12_number, RX12, some .int, 4, [], 0, 0)
def D_X12_number : List (Nat × Instr × Nat) := [(0, .aload_n 0, 1), (1, .invokevirtual 105, 3), (4, .iconst 0, 1), (5, .istore_n 3, 1), (6, .aload_n 0, 1), (7, .bipush 48, 2), (9, .bipush 57, 2), (11, .invokevirtual 98, 3), (14, .ifCond .eq 51, 3), (17, .aload_n 0, 1), (18, .getfield 92, 3), (21, .aload_n 0, 1), (22, .getfield 102, 3), (25, .isub, 1), (26, .iconst 3, 1), (27, .if_icmp .ge 23, 3), (30, .bipush 10, 2), (32, .iload_n 3, 1), (33, .imul, 1), (34, .aload_n 0, 1), (35, .getfield 29, 3), (38, .aload_n 0, 1), (39, .getfield 92, 3), (42, .baload, 1), (43, .iadd, 1), (44, .bipush 48, 2), (46, .isub, 1), (47, .goto 4, 3), (50, .iload_n 3, 1), (51, .istore_n 3, 1), (52, .aload_n 0, 1), (53, .dup, 1), (54, .getfield 92, 3), (57, .iconst 1, 1), (58, .iadd, 1), (59, .putfield 92, 3), (62, .goto (-56), 3), (65, .aload_n 0, 1), (66, .getfield 92, 3), (69, .aload_n 0, 1), (70, .getfield 102, 3), (73, .if_icmp .eq 26, 3), (76, .aload_n 0, 1), (77, .getfield 92, 3), (80, .aload_n 0, 1), (81, .getfield 102, 3), (84, .isub, 1), (85, .iconst 3, 1), (86, .if_icmp .gt 13, 3), (89, .iload_n 3, 1), (90, .iload_n 1, 1), (91, .if_icmp .lt 8, 3), (94, .iload_n 3, 1), (95, .iload_n 2, 1), (96, .if_icmp .le 7, 3), (99, .iconst (-1), 1), (100, .goto 4, 3), (103, .iload_n 3, 1), (104, .ireturn, 1)]
theorem dt_X12_number : ∀ q ∈ D_X12_number, decode cX12_number q.1 = .ok q.2 := by decide +kernel
theorem mv_X12_number : ea_MV yX12_number (F_X12_number) 2 := ⟨⟨List.mem_append_right _ (List.mem_of_getElem? (i := 13) (by decide +kernel)), List.mem_append_right _ (List.mem_of_getElem? (i := 1572) (by decide +kernel)), ⟨by decide, by decide⟩, by decide +kernel⟩, List.mem_append_right _ (List.mem_of_getElem? (i := 1571) (by decide +kernel)), List.mem_append_left _ (List.mem_of_getElem? (i := 52) (by decide +kernel))⟩
def f_X12_number_j51 (p1 : Int32) (p2 : Int32) (x7 : Int32) (m8 : ea_M) : Option ((Int32 × ea_M) ⊕ (Int32 × ea_M)) :=
  ea_bd (m8 272 10) fun x9 =>
  ea_bd (ea_st m8 272 10 (x9 + 1)) fun m10 =>
  some (.inl (x7, m10))
def f_X12_number_s6 (p1 : Int32) (p2 : Int32)  (s6 : Int32 × ea_M) : Option ((Int32 × ea_M) ⊕ (Int32 × ea_M)) :=
  ea_cl (f_X12_isAt 48 57 s6.2) fun r4 m3 =>
  if r4 = 0 then
  some (.inr (s6.1, m3))
  else
  ea_bd (m3 272 10) fun x5 =>
  ea_bd (m3 272 12) fun x6 =>
  if 3 ≤ (x5 - x6) then
  f_X12_number_j51 p1 p2 s6.1 m3
  else
  ea_bd (m3 272 10) fun x11 =>
  ea_g x11 400 (ea_bd (m3 278 (Int32.toNatClampNeg x11)) fun x12 =>
  ea_bd ((10 * s6.1) + x12) fun x13 =>
  f_X12_number_j51 p1 p2 (x13 - 48) m3)
def f_X12_number_j99 (m16 : ea_M) : Option (Int32 × ea_M) :=
  some ((-1), m16)
def f_X12_number (p1 : Int32) (p2 : Int32) (m : ea_M) : Option (Int32 × ea_M) :=
  ea_cl (f_X12_blanks m) fun r2 m1 =>
  (ea_loop (f_X12_number_s6 p1 p2) ea_fuel (0, m1)).bind (fun x6s =>
  ea_bd (x6s.2 272 10) fun x14 =>
  ea_bd (x6s.2 272 12) fun x15 =>
  if x14 = x15 then
  f_X12_number_j99 x6s.2
  else
  ea_bd (x6s.2 272 10) fun x17 =>
  ea_bd (x6s.2 272 12) fun x18 =>
  if 3 < (x17 - x18) then
  f_X12_number_j99 x6s.2
  else
  if x6s.1 < p1 then
  f_X12_number_j99 x6s.2
  else
  if x6s.1 ≤ p2 then
  some (x6s.1, x6s.2)
  else
  f_X12_number_j99 x6s.2)
set_option maxHeartbeats 300000 in
theorem jn_X12_number_51 (G : ea_G) {res : ea_O}  (p1 : Int32) (p2 : Int32) (x7 : Int32) (m8 : ea_M)  {Φ : ((Int32 × ea_M) ⊕ (Int32 × ea_M)) → Prop} (hC : ∀ s6 : Int32 × ea_M, Φ (.inl s6) → ea_Ev G F_X12_number res 6 [some (.ref 272), some (.int p1), some (.int p2), some (.int s6.1)] [] s6.2 0 0) (hX : ∀ x6s : Int32 × ea_M, Φ (.inr x6s) → ea_Ev G F_X12_number res 65 [some (.ref 272), some (.int p1), some (.int p2), some (.int x6s.1)] [] x6s.2 0 0) : ea_E G F_X12_number res 51 [some (.ref 272), some (.int p1), some (.int p2), none] [.int x7] m8 0 0 (f_X12_number_j51 p1 p2 x7 m8) Φ := by
  unfold f_X12_number_j51
  refine ev_istore_n (ls' := [some (.ref 272), some (.int p1), some (.int p2), some (.int x7)]) (ea_at dt_X12_number 29 rfl) (ea_lt rfl) rfl ?_
  refine ev_aload_n (ea_at dt_X12_number 30 rfl) rfl ?_
  refine ev_dup (ea_at dt_X12_number 31 rfl) rfl ?_
  refine ev_getI (ea_at dt_X12_number 32 rfl) fl_X12_92 sh_272 rfl ?_
  refine ev_i (fun x9 => ?_)
  refine ev_iconst (ea_at dt_X12_number 33 rfl) ic_1 ?_
  refine ev_iadd (ea_at dt_X12_number 34 rfl) ?_
  refine ev_putI (ea_at dt_X12_number 35 rfl) fl_X12_92 fp_12_10 sh_272 rfl ?_
  refine ev_m (fun m10 => ?_)
  refine ev_goto (tgt := 6) (ea_at dt_X12_number 36 rfl) rfl ?_
  exact ev_leaf (fun h => ea_drop (l' := [some (.ref 272), some (.int p1), some (.int p2), some (.int x7)]) ⟨Or.inr rfl, Or.inr rfl, Or.inr rfl, Or.inr rfl, trivial⟩ (hC (x7, m10) h))
set_option maxHeartbeats 300000 in
theorem lp_X12_number_6 (G : ea_G) {res : ea_O}  (p1 : Int32) (p2 : Int32)  {Ψ : (Int32 × ea_M) → Prop} (hX : ∀ x6s : Int32 × ea_M, Ψ x6s → ea_Ev G F_X12_number res 65 [some (.ref 272), some (.int p1), some (.int p2), some (.int x6s.1)] [] x6s.2 0 0) : ∀ (f : Nat) (s6 : Int32 × ea_M), ea_E G F_X12_number res 6 [some (.ref 272), some (.int p1), some (.int p2), some (.int s6.1)] [] s6.2 0 0 (ea_loop (f_X12_number_s6 p1 p2) f s6) Ψ := by
  refine ev_loop (G := G) (F := F_X12_number) (res := res) (pc := 6) (st := []) (k := 0) (n := 0) (step := (f_X12_number_s6 p1 p2)) (Ψ := Ψ) (fun (s6 : Int32 × ea_M) => [some (.ref 272), some (.int p1), some (.int p2), some (.int s6.1)]) (fun (s6 : Int32 × ea_M) => s6.2) (fun s6 => ?_)
  have hC : ∀ s6 : Int32 × ea_M, (Sum.elim (fun s6 : Int32 × ea_M => ea_Ev G F_X12_number res 6 [some (.ref 272), some (.int p1), some (.int p2), some (.int s6.1)] [] s6.2 0 0) Ψ) (.inl s6) → ea_Ev G F_X12_number res 6 [some (.ref 272), some (.int p1), some (.int p2), some (.int s6.1)] [] s6.2 0 0 := fun _ h => h
  have hX : ∀ x6s : Int32 × ea_M, (Sum.elim (fun s6 : Int32 × ea_M => ea_Ev G F_X12_number res 6 [some (.ref 272), some (.int p1), some (.int p2), some (.int s6.1)] [] s6.2 0 0) Ψ) (.inr x6s) → ea_Ev G F_X12_number res 65 [some (.ref 272), some (.int p1), some (.int p2), some (.int x6s.1)] [] x6s.2 0 0 := hX
  unfold f_X12_number_s6
  refine ev_aload_n (ea_at dt_X12_number 4 rfl) rfl ?_
  refine ev_bipush (ea_at dt_X12_number 5 rfl) bp_48 ?_
  refine ev_bipush (ea_at dt_X12_number 6 rfl) bp_57 ?_
  refine ev_clI (F1 := F_X12_isAt) (fun rY mY hY => ea_runV (As := [.int 48, .int 57]) (ea_at dt_X12_number 7 rfl) ml_X12_98 mv_X12_isAt (ok_X12_isAt G 48 57 s6.2  rY mY hY) sh_272 rfl rfl rfl (Nat.le_of_ble_eq_true rfl) rfl) rfl (fun r4 m3 => ?_)
  refine ev_if_eq (tgt := 65) (ea_at dt_X12_number 8 rfl) rfl (fun _ => ?_) (fun _ => ?_)
  · exact ev_leaf (fun h => ea_drop (l' := [some (.ref 272), some (.int p1), some (.int p2), some (.int s6.1)]) ⟨Or.inr rfl, Or.inr rfl, Or.inr rfl, Or.inr rfl, trivial⟩ (hX (s6.1, m3) h))
  · refine ev_aload_n (ea_at dt_X12_number 9 rfl) rfl ?_
    refine ev_getI (ea_at dt_X12_number 10 rfl) fl_X12_92 sh_272 rfl ?_
    refine ev_i (fun x5 => ?_)
    refine ev_aload_n (ea_at dt_X12_number 11 rfl) rfl ?_
    refine ev_getI (ea_at dt_X12_number 12 rfl) fl_X12_102 sh_272 rfl ?_
    refine ev_i (fun x6 => ?_)
    refine ev_isub (ea_at dt_X12_number 13 rfl) ?_
    refine ev_iconst (ea_at dt_X12_number 14 rfl) ic_3 ?_
    refine ev_icmp_ge (tgt := 50) (ea_at dt_X12_number 15 rfl) rfl (fun _ => ?_) (fun _ => ?_)
    · refine ev_iload_n (ea_at dt_X12_number 28 rfl) rfl ?_
      exact ev_drop (l' := [some (.ref 272), some (.int p1), some (.int p2), none]) ⟨Or.inr rfl, Or.inr rfl, Or.inr rfl, Or.inl rfl, trivial⟩ (jn_X12_number_51 G p1 p2 s6.1 m3  hC hX)
    · refine ev_bipush (ea_at dt_X12_number 16 rfl) bp_10 ?_
      refine ev_iload_n (ea_at dt_X12_number 17 rfl) rfl ?_
      refine ev_imul (ea_at dt_X12_number 18 rfl) ?_
      refine ev_aload_n (ea_at dt_X12_number 19 rfl) rfl ?_
      refine ev_getR (ea_at dt_X12_number 20 rfl) fl_X12_29 sh_272 rfl ?_
      refine ev_aload_n (ea_at dt_X12_number 21 rfl) rfl ?_
      refine ev_getI (ea_at dt_X12_number 22 rfl) fl_X12_92 sh_272 rfl ?_
      refine ev_i (fun x11 => ?_)
      refine ev_baload (ea_at dt_X12_number 23 rfl) sh_278 ?_
      refine ev_i (fun x12 => ?_)
      refine ev_iadd (ea_at dt_X12_number 24 rfl) ?_
      refine ev_i (fun x13 => ?_)
      refine ev_bipush (ea_at dt_X12_number 25 rfl) bp_48 ?_
      refine ev_isub (ea_at dt_X12_number 26 rfl) ?_
      refine ev_goto (tgt := 51) (ea_at dt_X12_number 27 rfl) rfl ?_
      exact ev_drop (l' := [some (.ref 272), some (.int p1), some (.int p2), none]) ⟨Or.inr rfl, Or.inr rfl, Or.inr rfl, Or.inl rfl, trivial⟩ (jn_X12_number_51 G p1 p2 (x13 - 48) m3  hC hX)
set_option maxHeartbeats 300000 in
theorem jn_X12_number_99 (G : ea_G) {res : ea_O}  (m16 : ea_M)  {Φ : (Int32 × ea_M) → Prop} (hR : ∀ t : Int32 × ea_M, Φ t → res = (0, t)) : ea_E G F_X12_number res 99 [none, none, none, none] [] m16 0 0 (f_X12_number_j99 m16) Φ := by
  unfold f_X12_number_j99
  refine ev_iconst (ea_at dt_X12_number 55 rfl) ic_m1 ?_
  refine ev_goto (tgt := 104) (ea_at dt_X12_number 56 rfl) rfl ?_
  exact ev_iret (ea_at dt_X12_number 58 rfl) rfl ⟨by decide, by decide⟩ (fun h => hR _ h)
set_option maxHeartbeats 300000 in
theorem ok_X12_number (G : ea_G) (p1 : Int32) (p2 : Int32) (m : ea_M)  (rZ : Int32) (mZ : ea_M) (hZ : f_X12_number p1 p2 m = some (rZ, mZ)) : ea_Met G yX12_number F_X12_number [.ref 272, .int p1, .int p2] m (0, rZ, mZ) := by
  refine ea_met (F := F_X12_number) (by decide +kernel) rfl rfl (Nat.le_of_ble_eq_true rfl) (by simp only [List.mem_cons, List.not_mem_nil, or_false]; intro v hv; rcases hv with rfl | rfl | rfl <;> rfl) ((?_ : ea_E G F_X12_number (0, rZ, mZ) 0 [some (.ref 272), some (.int p1), some (.int p2), none] [] m 0 0 (f_X12_number p1 p2 m) (fun t => t = (rZ, mZ))) (rZ, mZ) hZ rfl)
  have hR : ∀ t : Int32 × ea_M, t = (rZ, mZ) → ((0, rZ, mZ) : ea_O) = (0, t) := fun t h => by rw [h]
  unfold f_X12_number
  refine ev_aload_n (ea_at dt_X12_number 0 rfl) rfl ?_
  refine ev_clU (F1 := F_X12_blanks) (fun rY mY hY => ea_runV (As := []) (ea_at dt_X12_number 1 rfl) ml_X12_105 mv_X12_blanks (ok_X12_blanks G m  rY mY hY) sh_272 rfl rfl rfl (Nat.le_of_ble_eq_true rfl) rfl) rfl (fun r2 m1 => ?_)
  refine ev_iconst (ea_at dt_X12_number 2 rfl) ic_0 ?_
  refine ev_istore_n (ls' := [some (.ref 272), some (.int p1), some (.int p2), some (.int 0)]) (ea_at dt_X12_number 3 rfl) (ea_lt rfl) rfl ?_
  refine ev_drop (l' := [some (.ref 272), some (.int p1), some (.int p2), some (.int 0)]) ⟨Or.inr rfl, Or.inr rfl, Or.inr rfl, Or.inr rfl, trivial⟩ ?_
  refine ev_bind (lp_X12_number_6 G p1 p2   (fun x6s h => ?_) ea_fuel (0, m1))
  obtain ⟨t1, e1, q1⟩ := h
  refine (?_ : ea_E G F_X12_number (0, rZ, mZ) 65 [some (.ref 272), some (.int p1), some (.int p2), some (.int x6s.1)] [] x6s.2 0 0 _ (fun t => t = (rZ, mZ))) t1 e1 q1
  refine ev_aload_n (ea_at dt_X12_number 37 rfl) rfl ?_
  refine ev_getI (ea_at dt_X12_number 38 rfl) fl_X12_92 sh_272 rfl ?_
  refine ev_i (fun x14 => ?_)
  refine ev_aload_n (ea_at dt_X12_number 39 rfl) rfl ?_
  refine ev_getI (ea_at dt_X12_number 40 rfl) fl_X12_102 sh_272 rfl ?_
  refine ev_i (fun x15 => ?_)
  refine ev_icmp_eq (tgt := 99) (ea_at dt_X12_number 41 rfl) rfl (fun _ => ?_) (fun _ => ?_)
  · exact ev_drop (l' := [none, none, none, none]) ⟨Or.inl rfl, Or.inl rfl, Or.inl rfl, Or.inl rfl, trivial⟩ (jn_X12_number_99 G x6s.2  hR)
  · refine ev_aload_n (ea_at dt_X12_number 42 rfl) rfl ?_
    refine ev_getI (ea_at dt_X12_number 43 rfl) fl_X12_92 sh_272 rfl ?_
    refine ev_i (fun x17 => ?_)
    refine ev_aload_n (ea_at dt_X12_number 44 rfl) rfl ?_
    refine ev_getI (ea_at dt_X12_number 45 rfl) fl_X12_102 sh_272 rfl ?_
    refine ev_i (fun x18 => ?_)
    refine ev_isub (ea_at dt_X12_number 46 rfl) ?_
    refine ev_iconst (ea_at dt_X12_number 47 rfl) ic_3 ?_
    refine ev_icmp_gt (tgt := 99) (ea_at dt_X12_number 48 rfl) rfl (fun _ => ?_) (fun _ => ?_)
    · exact ev_drop (l' := [none, none, none, none]) ⟨Or.inl rfl, Or.inl rfl, Or.inl rfl, Or.inl rfl, trivial⟩ (jn_X12_number_99 G x6s.2  hR)
    · refine ev_iload_n (ea_at dt_X12_number 49 rfl) rfl ?_
      refine ev_iload_n (ea_at dt_X12_number 50 rfl) rfl ?_
      refine ev_icmp_lt (tgt := 99) (ea_at dt_X12_number 51 rfl) rfl (fun _ => ?_) (fun _ => ?_)
      · exact ev_drop (l' := [none, none, none, none]) ⟨Or.inl rfl, Or.inl rfl, Or.inl rfl, Or.inl rfl, trivial⟩ (jn_X12_number_99 G x6s.2  hR)
      · refine ev_iload_n (ea_at dt_X12_number 52 rfl) rfl ?_
        refine ev_iload_n (ea_at dt_X12_number 53 rfl) rfl ?_
        refine ev_icmp_le (tgt := 103) (ea_at dt_X12_number 54 rfl) rfl (fun _ => ?_) (fun _ => ?_)
        · refine ev_iload_n (ea_at dt_X12_number 57 rfl) rfl ?_
          exact ev_iret (ea_at dt_X12_number 58 rfl) rfl ⟨by decide, by decide⟩ (fun h => hR _ h)
        · exact ev_drop (l' := [none, none, none, none]) ⟨Or.inl rfl, Or.inl rfl, Or.inl rfl, Or.inl rfl, trivial⟩ (jn_X12_number_99 G x6s.2  hR)
def F_X12_after : ea_F := (ea_rm 14 0 0, cX12_after, RX12, some .int, 4, [], 0, 0)
def D_X12_after : List (Nat × Instr × Nat) := [(0, .aload_n 0, 1), (1, .invokevirtual 117, 3), (4, .aload_n 0, 1), (5, .aload_n 1, 1), (6, .invokevirtual 120, 3), (9, .ifCond .eq 12, 3), (12, .aload_n 0, 1), (13, .iload_n 2, 1), (14, .iload_n 3, 1), (15, .invokevirtual 124, 3), (18, .goto 4, 3), (21, .iconst (-1), 1), (22, .ireturn, 1)]
theorem dt_X12_after : ∀ q ∈ D_X12_after, decode cX12_after q.1 = .ok q.2 := by decide +kernel
theorem mv_X12_after : ea_MV yX12_after (F_X12_after) 3 := ⟨⟨List.mem_append_right _ (List.mem_of_getElem? (i := 13) (by decide +kernel)), List.mem_append_right _ (List.mem_of_getElem? (i := 1577) (by decide +kernel)), ⟨by decide, by decide⟩, by decide +kernel⟩, List.mem_append_right _ (List.mem_of_getElem? (i := 1576) (by decide +kernel)), List.mem_append_left _ (List.mem_of_getElem? (i := 53) (by decide +kernel))⟩
def f_X12_after (p1 : Nat) (p2 : Int32) (p3 : Int32) (m : ea_M) : Option (Int32 × ea_M) :=
  ea_cl (f_X12_letters m) fun r2 m1 =>
  ea_cl (f_X12_isWord p1 m1) fun r4 m3 =>
  if r4 = 0 then
  some ((-1), m3)
  else
  ea_cl (f_X12_number p2 p3 m3) fun r6 m5 =>
  some (r6, m5)
set_option maxHeartbeats 300000 in
theorem ok_X12_after (G : ea_G) (p1 : Nat) (p2 : Int32) (p3 : Int32) (m : ea_M) (hp1 : p1 < ea_str.length) (rZ : Int32) (mZ : ea_M) (hZ : f_X12_after p1 p2 p3 m = some (rZ, mZ)) : ea_Met G yX12_after F_X12_after [.ref 272, .ref (1000 + p1), .int p2, .int p3] m (0, rZ, mZ) := by
  refine ea_met (F := F_X12_after) (by decide +kernel) rfl rfl (Nat.le_of_ble_eq_true rfl) (by simp only [List.mem_cons, List.not_mem_nil, or_false]; intro v hv; rcases hv with rfl | rfl | rfl | rfl <;> rfl) ((?_ : ea_E G F_X12_after (0, rZ, mZ) 0 [some (.ref 272), some (.ref (1000 + p1)), some (.int p2), some (.int p3)] [] m 0 0 (f_X12_after p1 p2 p3 m) (fun t => t = (rZ, mZ))) (rZ, mZ) hZ rfl)
  have hR : ∀ t : Int32 × ea_M, t = (rZ, mZ) → ((0, rZ, mZ) : ea_O) = (0, t) := fun t h => by rw [h]
  unfold f_X12_after
  refine ev_aload_n (ea_at dt_X12_after 0 rfl) rfl ?_
  refine ev_clU (F1 := F_X12_letters) (fun rY mY hY => ea_runV (As := []) (ea_at dt_X12_after 1 rfl) ml_X12_117 mv_X12_letters (ok_X12_letters G m  rY mY hY) sh_272 rfl rfl rfl (Nat.le_of_ble_eq_true rfl) rfl) rfl (fun r2 m1 => ?_)
  refine ev_aload_n (ea_at dt_X12_after 2 rfl) rfl ?_
  refine ev_aload_n (ea_at dt_X12_after 3 rfl) rfl ?_
  refine ev_clI (F1 := F_X12_isWord) (fun rY mY hY => ea_runV (As := [.ref (1000 + p1)]) (ea_at dt_X12_after 4 rfl) ml_X12_120 mv_X12_isWord (ok_X12_isWord G p1 m1 hp1 rY mY hY) sh_272 rfl rfl rfl (Nat.le_of_ble_eq_true rfl) rfl) rfl (fun r4 m3 => ?_)
  refine ev_if_eq (tgt := 21) (ea_at dt_X12_after 5 rfl) rfl (fun _ => ?_) (fun _ => ?_)
  · refine ev_iconst (ea_at dt_X12_after 11 rfl) ic_m1 ?_
    exact ev_iret (ea_at dt_X12_after 12 rfl) rfl ⟨by decide, by decide⟩ (fun h => hR _ h)
  · refine ev_aload_n (ea_at dt_X12_after 6 rfl) rfl ?_
    refine ev_iload_n (ea_at dt_X12_after 7 rfl) rfl ?_
    refine ev_iload_n (ea_at dt_X12_after 8 rfl) rfl ?_
    refine ev_clI (F1 := F_X12_number) (fun rY mY hY => ea_runV (As := [.int p2, .int p3]) (ea_at dt_X12_after 9 rfl) ml_X12_124 mv_X12_number (ok_X12_number G p2 p3 m3  rY mY hY) sh_272 rfl rfl rfl (Nat.le_of_ble_eq_true rfl) rfl) rfl (fun r6 m5 => ?_)
    refine ev_goto (tgt := 22) (ea_at dt_X12_after 10 rfl) rfl ?_
    exact ev_iret (ea_at dt_X12_after 12 rfl) rfl ⟨by decide, by decide⟩ (fun h => hR _ h)
def F_X12_fault : ea_F := (ea_rm 8 0 0, cX12_fault, RX12, some .int, 1, [], 0, 0)
def D_X12_fault : List (Nat × Instr × Nat) := [(0, .aload_n 0, 1), (1, .iconst 0, 1), (2, .putfield 3, 3), (5, .aload_n 0, 1), (6, .getfield 33, 3), (9, .ireturn, 1)]
theorem dt_X12_fault : ∀ q ∈ D_X12_fault, decode cX12_fault q.1 = .ok q.2 := by decide +kernel
theorem mv_X12_fault : ea_MV yX12_fault (F_X12_fault) 0 := ⟨⟨List.mem_append_right _ (List.mem_of_getElem? (i := 13) (by decide +kernel)), List.mem_append_right _ (List.mem_of_getElem? (i := 1520) (by decide +kernel)), ⟨by decide, by decide⟩, by decide +kernel⟩, List.mem_append_right _ (List.mem_of_getElem? (i := 1518) (by decide +kernel)), List.mem_append_right _ (List.mem_of_getElem? (i := 1519) (by decide +kernel))⟩
def f_X12_fault (m : ea_M) : Option (Int32 × ea_M) :=
  ea_bd (ea_st m 272 0 0) fun m1 =>
  ea_bd (m1 272 14) fun x2 =>
  some (x2, m1)
set_option maxHeartbeats 300000 in
theorem ok_X12_fault (G : ea_G) (m : ea_M)  (rZ : Int32) (mZ : ea_M) (hZ : f_X12_fault m = some (rZ, mZ)) : ea_Met G yX12_fault F_X12_fault [.ref 272] m (0, rZ, mZ) := by
  refine ea_met (F := F_X12_fault) (by decide +kernel) rfl rfl (Nat.le_of_ble_eq_true rfl) (by simp only [List.mem_cons, List.not_mem_nil, or_false]; intro v hv; rcases hv with rfl <;> rfl) ((?_ : ea_E G F_X12_fault (0, rZ, mZ) 0 [some (.ref 272)] [] m 0 0 (f_X12_fault m) (fun t => t = (rZ, mZ))) (rZ, mZ) hZ rfl)
  have hR : ∀ t : Int32 × ea_M, t = (rZ, mZ) → ((0, rZ, mZ) : ea_O) = (0, t) := fun t h => by rw [h]
  unfold f_X12_fault
  refine ev_aload_n (ea_at dt_X12_fault 0 rfl) rfl ?_
  refine ev_iconst (ea_at dt_X12_fault 1 rfl) ic_0 ?_
  refine ev_putI (ea_at dt_X12_fault 2 rfl) fl_X12_3 fp_12_0 sh_272 rfl ?_
  refine ev_m (fun m1 => ?_)
  refine ev_aload_n (ea_at dt_X12_fault 3 rfl) rfl ?_
  refine ev_getI (ea_at dt_X12_fault 4 rfl) fl_X12_33 sh_272 rfl ?_
  refine ev_i (fun x2 => ?_)
  exact ev_iret (ea_at dt_X12_fault 5 rfl) rfl ⟨by decide, by decide⟩ (fun h => hR _ h)
def F_X12_uses : ea_F := (ea_rm 8 0 0, cX12_uses, RX12, none, 1, [], 0, 0)
def D_X12_uses : List (Nat × Instr × Nat) := [(0, .aload_n 0, 1), (1, .iconst 0, 1), (2, .putfield 3, 3), (5, .aload_n 0, 1), (6, .aload_n 0, 1), (7, .getfield 89, 3), (10, .putfield 95, 3), (13, .aload_n 0, 1), (14, .iconst 0, 1), (15, .putfield 89, 3), (18, .aload_n 0, 1), (19, .iconst 0, 1), (20, .putfield 92, 3), (23, .return_, 1)]
theorem dt_X12_uses : ∀ q ∈ D_X12_uses, decode cX12_uses q.1 = .ok q.2 := by decide +kernel
theorem mv_X12_uses : ea_MV yX12_uses (F_X12_uses) 0 := ⟨⟨List.mem_append_right _ (List.mem_of_getElem? (i := 13) (by decide +kernel)), List.mem_append_right _ (List.mem_of_getElem? (i := 1532) (by decide +kernel)), ⟨by decide, by decide⟩, by decide +kernel⟩, List.mem_append_right _ (List.mem_of_getElem? (i := 1531) (by decide +kernel)), List.mem_append_left _ (List.mem_of_getElem? (i := 43) (by decide +kernel))⟩
def f_X12_uses (m : ea_M) : Option (Int32 × ea_M) :=
  ea_bd (ea_st m 272 0 0) fun m1 =>
  ea_bd (m1 272 9) fun x2 =>
  ea_bd (ea_st m1 272 11 x2) fun m3 =>
  ea_bd (ea_st m3 272 9 0) fun m4 =>
  ea_bd (ea_st m4 272 10 0) fun m5 =>
  some (0, m5)
set_option maxHeartbeats 300000 in
theorem ok_X12_uses (G : ea_G) (m : ea_M)  (rZ : Int32) (mZ : ea_M) (hZ : f_X12_uses m = some (rZ, mZ)) : ea_Met G yX12_uses F_X12_uses [.ref 272] m (0, rZ, mZ) := by
  refine ea_met (F := F_X12_uses) (by decide +kernel) rfl rfl (Nat.le_of_ble_eq_true rfl) (by simp only [List.mem_cons, List.not_mem_nil, or_false]; intro v hv; rcases hv with rfl <;> rfl) ((?_ : ea_E G F_X12_uses (0, rZ, mZ) 0 [some (.ref 272)] [] m 0 0 (f_X12_uses m) (fun t => t = (rZ, mZ))) (rZ, mZ) hZ rfl)
  have hR : ∀ t : Int32 × ea_M, t = (rZ, mZ) → ((0, rZ, mZ) : ea_O) = (0, t) := fun t h => by rw [h]
  unfold f_X12_uses
  refine ev_aload_n (ea_at dt_X12_uses 0 rfl) rfl ?_
  refine ev_iconst (ea_at dt_X12_uses 1 rfl) ic_0 ?_
  refine ev_putI (ea_at dt_X12_uses 2 rfl) fl_X12_3 fp_12_0 sh_272 rfl ?_
  refine ev_m (fun m1 => ?_)
  refine ev_aload_n (ea_at dt_X12_uses 3 rfl) rfl ?_
  refine ev_aload_n (ea_at dt_X12_uses 4 rfl) rfl ?_
  refine ev_getI (ea_at dt_X12_uses 5 rfl) fl_X12_89 sh_272 rfl ?_
  refine ev_i (fun x2 => ?_)
  refine ev_putI (ea_at dt_X12_uses 6 rfl) fl_X12_95 fp_12_11 sh_272 rfl ?_
  refine ev_m (fun m3 => ?_)
  refine ev_aload_n (ea_at dt_X12_uses 7 rfl) rfl ?_
  refine ev_iconst (ea_at dt_X12_uses 8 rfl) ic_0 ?_
  refine ev_putI (ea_at dt_X12_uses 9 rfl) fl_X12_89 fp_12_9 sh_272 rfl ?_
  refine ev_m (fun m4 => ?_)
  refine ev_aload_n (ea_at dt_X12_uses 10 rfl) rfl ?_
  refine ev_iconst (ea_at dt_X12_uses 11 rfl) ic_0 ?_
  refine ev_putI (ea_at dt_X12_uses 12 rfl) fl_X12_92 fp_12_10 sh_272 rfl ?_
  refine ev_m (fun m5 => ?_)
  exact ev_vret (ea_at dt_X12_uses 13 rfl) rfl ⟨by decide, by decide⟩ (fun h => ⟨0, hR _ h⟩)
def F_X12_lettersTold : ea_F := (ea_rm 11 0 0, cX12_lettersTold, RX12, some .int, 6, [], 0, 0)
def D_X12_lettersTold : List (Nat × Instr × Nat) := [(0, .aload_n 0, 1), (1, .invokevirtual 117, 3), (4, .iconst 0, 1), (5, .istore_n 2, 1), (6, .aload_n 0, 1), (7, .getfield 92, 3), (10, .aload_n 0, 1), (11, .getfield 102, 3), (14, .if_icmp .le 7, 3), (17, .iconst 1, 1), (18, .goto 4, 3), (21, .iconst 0, 1), (22, .istore_n 3, 1), (23, .aload_n 0, 1), (24, .getfield 102, 3), (27, .istore 4, 2), (29, .iload 4, 2), (31, .aload_n 0, 1), (32, .getfield 92, 3), (35, .if_icmp .ge 67, 3), (38, .iload_n 3, 1), (39, .ifCond .eq 63, 3), (42, .aload_n 0, 1), (43, .getfield 29, 3), (46, .iload 4, 2), (48, .baload, 1), (49, .bipush 97, 2), (51, .isub, 1), (52, .istore 5, 2), (54, .iload 5, 2), (56, .iconst 0, 1), (57, .iload_n 1, 1), (58, .iconst 1, 1), (59, .isub, 1), (60, .invokestatic 78, 3), (63, .ifCond .eq 16, 3), (66, .iload_n 2, 1), (67, .iload 5, 2), (69, .invokestatic 127, 3), (72, .ifCond .ne 7, 3), (75, .iconst 1, 1), (76, .goto 4, 3), (79, .iconst 0, 1), (80, .istore_n 3, 1), (81, .iload_n 2, 1), (82, .iload_n 3, 1), (83, .ifCond .eq 10, 3), (86, .iconst 1, 1), (87, .iload 5, 2), (89, .ishl, 1), (90, .goto 4, 3), (93, .iconst 0, 1), (94, .ior, 1), (95, .istore_n 2, 1), (96, .iinc 4 1, 3), (99, .goto (-70), 3), (102, .iload_n 3, 1), (103, .ifCond .eq 7, 3), (106, .iload_n 2, 1), (107, .goto 4, 3), (110, .iconst (-1), 1), (111, .ireturn, 1)]
theorem dt_X12_lettersTold : ∀ q ∈ D_X12_lettersTold, decode cX12_lettersTold q.1 = .ok q.2 := by decide +kernel
theorem mv_X12_lettersTold : ea_MV yX12_lettersTold (F_X12_lettersTold) 1 := ⟨⟨List.mem_append_right _ (List.mem_of_getElem? (i := 13) (by decide +kernel)), List.mem_append_right _ (List.mem_of_getElem? (i := 1582) (by decide +kernel)), ⟨by decide, by decide⟩, by decide +kernel⟩, List.mem_append_right _ (List.mem_of_getElem? (i := 1581) (by decide +kernel)), List.mem_append_left _ (List.mem_of_getElem? (i := 54) (by decide +kernel))⟩
def f_X12_lettersTold_j94 (p1 : Int32) (x23 : Int32) (x24 : Int32) (x25 : Int32) (x26 : Int32) (m27 : ea_M) : Option ((Int32 × Int32 × Int32 × ea_M) ⊕ (Int32 × Int32 × ea_M)) :=
  ea_bd (x25 ||| x26) fun x28 =>
  some (.inl (x28, x23, x24 + 1, m27))
def f_X12_lettersTold_j80 (p1 : Int32) (x18 : Int32) (x19 : Int32) (x20 : Int32) (x21 : Int32) (m22 : ea_M) : Option ((Int32 × Int32 × Int32 × ea_M) ⊕ (Int32 × Int32 × ea_M)) :=
  if x21 = 0 then
  f_X12_lettersTold_j94 p1 x21 x19 x18 0 m22
  else
  f_X12_lettersTold_j94 p1 x21 x19 x18 (1 <<< (x20 &&& 31)) m22
def f_X12_lettersTold_j79 (p1 : Int32) (x14 : Int32) (x15 : Int32) (x16 : Int32) (m17 : ea_M) : Option ((Int32 × Int32 × Int32 × ea_M) ⊕ (Int32 × Int32 × ea_M)) :=
  f_X12_lettersTold_j80 p1 x14 x15 x16 0 m17
def f_X12_lettersTold_s29 (p1 : Int32)  (s29 : Int32 × Int32 × Int32 × ea_M) : Option ((Int32 × Int32 × Int32 × ea_M) ⊕ (Int32 × Int32 × ea_M)) :=
  ea_bd (s29.2.2.2 272 10) fun x9 =>
  if x9 ≤ s29.2.2.1 then
  some (.inr (s29.1, s29.2.1, s29.2.2.2))
  else
  if s29.2.1 = 0 then
  some (.inr (s29.1, s29.2.1, s29.2.2.2))
  else
  ea_g s29.2.2.1 400 (ea_bd (s29.2.2.2 278 (Int32.toNatClampNeg s29.2.2.1)) fun x10 =>
  ea_bd (x10 - 97) fun x11 =>
  ea_cl (f_X12_in x11 0 (p1 - 1) s29.2.2.2) fun r13 m12 =>
  if r13 = 0 then
  f_X12_lettersTold_j79 p1 s29.1 s29.2.2.1 x11 m12
  else
  ea_cl (f_X12_has s29.1 x11 m12) fun r30 m29 =>
  if r30 = 0 then
  f_X12_lettersTold_j80 p1 s29.1 s29.2.2.1 x11 1 m29
  else
  f_X12_lettersTold_j79 p1 s29.1 s29.2.2.1 x11 m29)
def f_X12_lettersTold_j22 (p1 : Int32) (x5 : Int32) (x6 : Int32) (m7 : ea_M) : Option (Int32 × ea_M) :=
  ea_bd (m7 272 12) fun x8 =>
  (ea_loop (f_X12_lettersTold_s29 p1) ea_fuel (x5, x6, x8, m7)).bind (fun x29s =>
  if x29s.2.1 = 0 then
  some ((-1), x29s.2.2)
  else
  some (x29s.1, x29s.2.2))
def f_X12_lettersTold (p1 : Int32) (m : ea_M) : Option (Int32 × ea_M) :=
  ea_cl (f_X12_letters m) fun r2 m1 =>
  ea_bd (m1 272 10) fun x3 =>
  ea_bd (m1 272 12) fun x4 =>
  if x3 ≤ x4 then
  f_X12_lettersTold_j22 p1 0 0 m1
  else
  f_X12_lettersTold_j22 p1 0 1 m1
set_option maxHeartbeats 300000 in
theorem jn_X12_lettersTold_94 (G : ea_G) {res : ea_O}  (p1 : Int32) (x23 : Int32) (x24 : Int32) (x25 : Int32) (x26 : Int32) (m27 : ea_M)  {Φ : ((Int32 × Int32 × Int32 × ea_M) ⊕ (Int32 × Int32 × ea_M)) → Prop} (hC : ∀ s29 : Int32 × Int32 × Int32 × ea_M, Φ (.inl s29) → ea_Ev G F_X12_lettersTold res 29 [some (.ref 272), some (.int p1), some (.int s29.1), some (.int s29.2.1), some (.int s29.2.2.1), none] [] s29.2.2.2 0 0) (hX : ∀ x29s : Int32 × Int32 × ea_M, Φ (.inr x29s) → ea_Ev G F_X12_lettersTold res 102 [none, none, some (.int x29s.1), some (.int x29s.2.1), none, none] [] x29s.2.2 0 0) : ea_E G F_X12_lettersTold res 94 [some (.ref 272), some (.int p1), none, some (.int x23), some (.int x24), none] [.int x26, .int x25] m27 0 0 (f_X12_lettersTold_j94 p1 x23 x24 x25 x26 m27) Φ := by
  unfold f_X12_lettersTold_j94
  refine ev_ior (ea_at dt_X12_lettersTold 52 rfl) ?_
  refine ev_i (fun x28 => ?_)
  refine ev_istore_n (ls' := [some (.ref 272), some (.int p1), some (.int x28), some (.int x23), some (.int x24), none]) (ea_at dt_X12_lettersTold 53 rfl) (ea_lt rfl) rfl ?_
  refine ev_iinc (ls' := [some (.ref 272), some (.int p1), some (.int x28), some (.int x23), some (.int (x24 + 1)), none]) (ea_at dt_X12_lettersTold 54 rfl) rfl (congrArg (fun z => _ + z) ic_1) (ea_lt rfl) rfl ?_
  refine ev_goto (tgt := 29) (ea_at dt_X12_lettersTold 55 rfl) rfl ?_
  exact ev_leaf (fun h => ea_drop (l' := [some (.ref 272), some (.int p1), some (.int x28), some (.int x23), some (.int (x24 + 1)), none]) ⟨Or.inr rfl, Or.inr rfl, Or.inr rfl, Or.inr rfl, Or.inr rfl, Or.inl rfl, trivial⟩ (hC (x28, x23, x24 + 1, m27) h))
set_option maxHeartbeats 300000 in
theorem jn_X12_lettersTold_80 (G : ea_G) {res : ea_O}  (p1 : Int32) (x18 : Int32) (x19 : Int32) (x20 : Int32) (x21 : Int32) (m22 : ea_M)  {Φ : ((Int32 × Int32 × Int32 × ea_M) ⊕ (Int32 × Int32 × ea_M)) → Prop} (hC : ∀ s29 : Int32 × Int32 × Int32 × ea_M, Φ (.inl s29) → ea_Ev G F_X12_lettersTold res 29 [some (.ref 272), some (.int p1), some (.int s29.1), some (.int s29.2.1), some (.int s29.2.2.1), none] [] s29.2.2.2 0 0) (hX : ∀ x29s : Int32 × Int32 × ea_M, Φ (.inr x29s) → ea_Ev G F_X12_lettersTold res 102 [none, none, some (.int x29s.1), some (.int x29s.2.1), none, none] [] x29s.2.2 0 0) : ea_E G F_X12_lettersTold res 80 [some (.ref 272), some (.int p1), some (.int x18), none, some (.int x19), some (.int x20)] [.int x21] m22 0 0 (f_X12_lettersTold_j80 p1 x18 x19 x20 x21 m22) Φ := by
  unfold f_X12_lettersTold_j80
  refine ev_istore_n (ls' := [some (.ref 272), some (.int p1), some (.int x18), some (.int x21), some (.int x19), some (.int x20)]) (ea_at dt_X12_lettersTold 43 rfl) (ea_lt rfl) rfl ?_
  refine ev_iload_n (ea_at dt_X12_lettersTold 44 rfl) rfl ?_
  refine ev_iload_n (ea_at dt_X12_lettersTold 45 rfl) rfl ?_
  refine ev_if_eq (tgt := 93) (ea_at dt_X12_lettersTold 46 rfl) rfl (fun _ => ?_) (fun _ => ?_)
  · refine ev_iconst (ea_at dt_X12_lettersTold 51 rfl) ic_0 ?_
    exact ev_drop (l' := [some (.ref 272), some (.int p1), none, some (.int x21), some (.int x19), none]) ⟨Or.inr rfl, Or.inr rfl, Or.inl rfl, Or.inr rfl, Or.inr rfl, Or.inl rfl, trivial⟩ (jn_X12_lettersTold_94 G p1 x21 x19 x18 0 m22  hC hX)
  · refine ev_iconst (ea_at dt_X12_lettersTold 47 rfl) ic_1 ?_
    refine ev_iload (ea_at dt_X12_lettersTold 48 rfl) rfl ?_
    refine ev_ishl (ea_at dt_X12_lettersTold 49 rfl) ?_
    refine ev_goto (tgt := 94) (ea_at dt_X12_lettersTold 50 rfl) rfl ?_
    exact ev_drop (l' := [some (.ref 272), some (.int p1), none, some (.int x21), some (.int x19), none]) ⟨Or.inr rfl, Or.inr rfl, Or.inl rfl, Or.inr rfl, Or.inr rfl, Or.inl rfl, trivial⟩ (jn_X12_lettersTold_94 G p1 x21 x19 x18 (1 <<< (x20 &&& 31)) m22  hC hX)
set_option maxHeartbeats 300000 in
theorem jn_X12_lettersTold_79 (G : ea_G) {res : ea_O}  (p1 : Int32) (x14 : Int32) (x15 : Int32) (x16 : Int32) (m17 : ea_M)  {Φ : ((Int32 × Int32 × Int32 × ea_M) ⊕ (Int32 × Int32 × ea_M)) → Prop} (hC : ∀ s29 : Int32 × Int32 × Int32 × ea_M, Φ (.inl s29) → ea_Ev G F_X12_lettersTold res 29 [some (.ref 272), some (.int p1), some (.int s29.1), some (.int s29.2.1), some (.int s29.2.2.1), none] [] s29.2.2.2 0 0) (hX : ∀ x29s : Int32 × Int32 × ea_M, Φ (.inr x29s) → ea_Ev G F_X12_lettersTold res 102 [none, none, some (.int x29s.1), some (.int x29s.2.1), none, none] [] x29s.2.2 0 0) : ea_E G F_X12_lettersTold res 79 [some (.ref 272), some (.int p1), some (.int x14), none, some (.int x15), some (.int x16)] [] m17 0 0 (f_X12_lettersTold_j79 p1 x14 x15 x16 m17) Φ := by
  unfold f_X12_lettersTold_j79
  refine ev_iconst (ea_at dt_X12_lettersTold 42 rfl) ic_0 ?_
  exact ev_drop (l' := [some (.ref 272), some (.int p1), some (.int x14), none, some (.int x15), some (.int x16)]) ⟨Or.inr rfl, Or.inr rfl, Or.inr rfl, Or.inl rfl, Or.inr rfl, Or.inr rfl, trivial⟩ (jn_X12_lettersTold_80 G p1 x14 x15 x16 0 m17  hC hX)
set_option maxHeartbeats 300000 in
theorem lp_X12_lettersTold_29 (G : ea_G) {res : ea_O}  (p1 : Int32)  {Ψ : (Int32 × Int32 × ea_M) → Prop} (hX : ∀ x29s : Int32 × Int32 × ea_M, Ψ x29s → ea_Ev G F_X12_lettersTold res 102 [none, none, some (.int x29s.1), some (.int x29s.2.1), none, none] [] x29s.2.2 0 0) : ∀ (f : Nat) (s29 : Int32 × Int32 × Int32 × ea_M), ea_E G F_X12_lettersTold res 29 [some (.ref 272), some (.int p1), some (.int s29.1), some (.int s29.2.1), some (.int s29.2.2.1), none] [] s29.2.2.2 0 0 (ea_loop (f_X12_lettersTold_s29 p1) f s29) Ψ := by
  refine ev_loop (G := G) (F := F_X12_lettersTold) (res := res) (pc := 29) (st := []) (k := 0) (n := 0) (step := (f_X12_lettersTold_s29 p1)) (Ψ := Ψ) (fun (s29 : Int32 × Int32 × Int32 × ea_M) => [some (.ref 272), some (.int p1), some (.int s29.1), some (.int s29.2.1), some (.int s29.2.2.1), none]) (fun (s29 : Int32 × Int32 × Int32 × ea_M) => s29.2.2.2) (fun s29 => ?_)
  have hC : ∀ s29 : Int32 × Int32 × Int32 × ea_M, (Sum.elim (fun s29 : Int32 × Int32 × Int32 × ea_M => ea_Ev G F_X12_lettersTold res 29 [some (.ref 272), some (.int p1), some (.int s29.1), some (.int s29.2.1), some (.int s29.2.2.1), none] [] s29.2.2.2 0 0) Ψ) (.inl s29) → ea_Ev G F_X12_lettersTold res 29 [some (.ref 272), some (.int p1), some (.int s29.1), some (.int s29.2.1), some (.int s29.2.2.1), none] [] s29.2.2.2 0 0 := fun _ h => h
  have hX : ∀ x29s : Int32 × Int32 × ea_M, (Sum.elim (fun s29 : Int32 × Int32 × Int32 × ea_M => ea_Ev G F_X12_lettersTold res 29 [some (.ref 272), some (.int p1), some (.int s29.1), some (.int s29.2.1), some (.int s29.2.2.1), none] [] s29.2.2.2 0 0) Ψ) (.inr x29s) → ea_Ev G F_X12_lettersTold res 102 [none, none, some (.int x29s.1), some (.int x29s.2.1), none, none] [] x29s.2.2 0 0 := hX
  unfold f_X12_lettersTold_s29
  refine ev_iload (ea_at dt_X12_lettersTold 16 rfl) rfl ?_
  refine ev_aload_n (ea_at dt_X12_lettersTold 17 rfl) rfl ?_
  refine ev_getI (ea_at dt_X12_lettersTold 18 rfl) fl_X12_92 sh_272 rfl ?_
  refine ev_i (fun x9 => ?_)
  refine ev_icmp_ge (tgt := 102) (ea_at dt_X12_lettersTold 19 rfl) rfl (fun _ => ?_) (fun _ => ?_)
  · exact ev_leaf (fun h => ea_drop (l' := [none, none, some (.int s29.1), some (.int s29.2.1), none, none]) ⟨Or.inl rfl, Or.inl rfl, Or.inr rfl, Or.inr rfl, Or.inl rfl, Or.inl rfl, trivial⟩ (hX (s29.1, s29.2.1, s29.2.2.2) h))
  · refine ev_iload_n (ea_at dt_X12_lettersTold 20 rfl) rfl ?_
    refine ev_if_eq (tgt := 102) (ea_at dt_X12_lettersTold 21 rfl) rfl (fun _ => ?_) (fun _ => ?_)
    · exact ev_leaf (fun h => ea_drop (l' := [none, none, some (.int s29.1), some (.int s29.2.1), none, none]) ⟨Or.inl rfl, Or.inl rfl, Or.inr rfl, Or.inr rfl, Or.inl rfl, Or.inl rfl, trivial⟩ (hX (s29.1, s29.2.1, s29.2.2.2) h))
    · refine ev_aload_n (ea_at dt_X12_lettersTold 22 rfl) rfl ?_
      refine ev_getR (ea_at dt_X12_lettersTold 23 rfl) fl_X12_29 sh_272 rfl ?_
      refine ev_iload (ea_at dt_X12_lettersTold 24 rfl) rfl ?_
      refine ev_baload (ea_at dt_X12_lettersTold 25 rfl) sh_278 ?_
      refine ev_i (fun x10 => ?_)
      refine ev_bipush (ea_at dt_X12_lettersTold 26 rfl) bp_97 ?_
      refine ev_isub (ea_at dt_X12_lettersTold 27 rfl) ?_
      refine ev_i (fun x11 => ?_)
      refine ev_istore (ls' := [some (.ref 272), some (.int p1), some (.int s29.1), some (.int s29.2.1), some (.int s29.2.2.1), some (.int x11)]) (ea_at dt_X12_lettersTold 28 rfl) (ea_lt rfl) rfl ?_
      refine ev_iload (ea_at dt_X12_lettersTold 29 rfl) rfl ?_
      refine ev_iconst (ea_at dt_X12_lettersTold 30 rfl) ic_0 ?_
      refine ev_iload_n (ea_at dt_X12_lettersTold 31 rfl) rfl ?_
      refine ev_iconst (ea_at dt_X12_lettersTold 32 rfl) ic_1 ?_
      refine ev_isub (ea_at dt_X12_lettersTold 33 rfl) ?_
      refine ev_clI (F1 := F_X12_in) (fun rY mY hY => ea_runS (As := [.int x11, .int 0, .int (p1 - 1)]) (ea_at dt_X12_lettersTold 34 rfl) ml_X12_78 mv_X12_in (ok_X12_in G x11 0 (p1 - 1) s29.2.2.2  rY mY hY) rfl rfl (Nat.le_of_ble_eq_true rfl) rfl) rfl (fun r13 m12 => ?_)
      refine ev_if_eq (tgt := 79) (ea_at dt_X12_lettersTold 35 rfl) rfl (fun _ => ?_) (fun _ => ?_)
      · exact ev_drop (l' := [some (.ref 272), some (.int p1), some (.int s29.1), none, some (.int s29.2.2.1), some (.int x11)]) ⟨Or.inr rfl, Or.inr rfl, Or.inr rfl, Or.inl rfl, Or.inr rfl, Or.inr rfl, trivial⟩ (jn_X12_lettersTold_79 G p1 s29.1 s29.2.2.1 x11 m12  hC hX)
      · refine ev_iload_n (ea_at dt_X12_lettersTold 36 rfl) rfl ?_
        refine ev_iload (ea_at dt_X12_lettersTold 37 rfl) rfl ?_
        refine ev_clI (F1 := F_X12_has) (fun rY mY hY => ea_runS (As := [.int s29.1, .int x11]) (ea_at dt_X12_lettersTold 38 rfl) ml_X12_127 mv_X12_has (ok_X12_has G s29.1 x11 m12  rY mY hY) rfl rfl (Nat.le_of_ble_eq_true rfl) rfl) rfl (fun r30 m29 => ?_)
        refine ev_if_ne (tgt := 79) (ea_at dt_X12_lettersTold 39 rfl) rfl (fun _ => ?_) (fun _ => ?_)
        · refine ev_iconst (ea_at dt_X12_lettersTold 40 rfl) ic_1 ?_
          refine ev_goto (tgt := 80) (ea_at dt_X12_lettersTold 41 rfl) rfl ?_
          exact ev_drop (l' := [some (.ref 272), some (.int p1), some (.int s29.1), none, some (.int s29.2.2.1), some (.int x11)]) ⟨Or.inr rfl, Or.inr rfl, Or.inr rfl, Or.inl rfl, Or.inr rfl, Or.inr rfl, trivial⟩ (jn_X12_lettersTold_80 G p1 s29.1 s29.2.2.1 x11 1 m29  hC hX)
        · exact ev_drop (l' := [some (.ref 272), some (.int p1), some (.int s29.1), none, some (.int s29.2.2.1), some (.int x11)]) ⟨Or.inr rfl, Or.inr rfl, Or.inr rfl, Or.inl rfl, Or.inr rfl, Or.inr rfl, trivial⟩ (jn_X12_lettersTold_79 G p1 s29.1 s29.2.2.1 x11 m29  hC hX)
set_option maxHeartbeats 300000 in
theorem jn_X12_lettersTold_22 (G : ea_G) {res : ea_O}  (p1 : Int32) (x5 : Int32) (x6 : Int32) (m7 : ea_M)  {Φ : (Int32 × ea_M) → Prop} (hR : ∀ t : Int32 × ea_M, Φ t → res = (0, t)) : ea_E G F_X12_lettersTold res 22 [some (.ref 272), some (.int p1), some (.int x5), none, none, none] [.int x6] m7 0 0 (f_X12_lettersTold_j22 p1 x5 x6 m7) Φ := by
  unfold f_X12_lettersTold_j22
  refine ev_istore_n (ls' := [some (.ref 272), some (.int p1), some (.int x5), some (.int x6), none, none]) (ea_at dt_X12_lettersTold 12 rfl) (ea_lt rfl) rfl ?_
  refine ev_aload_n (ea_at dt_X12_lettersTold 13 rfl) rfl ?_
  refine ev_getI (ea_at dt_X12_lettersTold 14 rfl) fl_X12_102 sh_272 rfl ?_
  refine ev_i (fun x8 => ?_)
  refine ev_istore (ls' := [some (.ref 272), some (.int p1), some (.int x5), some (.int x6), some (.int x8), none]) (ea_at dt_X12_lettersTold 15 rfl) (ea_lt rfl) rfl ?_
  refine ev_drop (l' := [some (.ref 272), some (.int p1), some (.int x5), some (.int x6), some (.int x8), none]) ⟨Or.inr rfl, Or.inr rfl, Or.inr rfl, Or.inr rfl, Or.inr rfl, Or.inl rfl, trivial⟩ ?_
  refine ev_bind (lp_X12_lettersTold_29 G p1   (fun x29s h => ?_) ea_fuel (x5, x6, x8, m7))
  obtain ⟨t1, e1, q1⟩ := h
  refine (?_ : ea_E G F_X12_lettersTold res 102 [none, none, some (.int x29s.1), some (.int x29s.2.1), none, none] [] x29s.2.2 0 0 _ Φ) t1 e1 q1
  refine ev_iload_n (ea_at dt_X12_lettersTold 56 rfl) rfl ?_
  refine ev_if_eq (tgt := 110) (ea_at dt_X12_lettersTold 57 rfl) rfl (fun _ => ?_) (fun _ => ?_)
  · refine ev_iconst (ea_at dt_X12_lettersTold 60 rfl) ic_m1 ?_
    exact ev_iret (ea_at dt_X12_lettersTold 61 rfl) rfl ⟨by decide, by decide⟩ (fun h => hR _ h)
  · refine ev_iload_n (ea_at dt_X12_lettersTold 58 rfl) rfl ?_
    refine ev_goto (tgt := 111) (ea_at dt_X12_lettersTold 59 rfl) rfl ?_
    exact ev_iret (ea_at dt_X12_lettersTold 61 rfl) rfl ⟨by decide, by decide⟩ (fun h => hR _ h)
set_option maxHeartbeats 300000 in
theorem ok_X12_lettersTold (G : ea_G) (p1 : Int32) (m : ea_M)  (rZ : Int32) (mZ : ea_M) (hZ : f_X12_lettersTold p1 m = some (rZ, mZ)) : ea_Met G yX12_lettersTold F_X12_lettersTold [.ref 272, .int p1] m (0, rZ, mZ) := by
  refine ea_met (F := F_X12_lettersTold) (by decide +kernel) rfl rfl (Nat.le_of_ble_eq_true rfl) (by simp only [List.mem_cons, List.not_mem_nil, or_false]; intro v hv; rcases hv with rfl | rfl <;> rfl) ((?_ : ea_E G F_X12_lettersTold (0, rZ, mZ) 0 [some (.ref 272), some (.int p1), none, none, none, none] [] m 0 0 (f_X12_lettersTold p1 m) (fun t => t = (rZ, mZ))) (rZ, mZ) hZ rfl)
  have hR : ∀ t : Int32 × ea_M, t = (rZ, mZ) → ((0, rZ, mZ) : ea_O) = (0, t) := fun t h => by rw [h]
  unfold f_X12_lettersTold
  refine ev_aload_n (ea_at dt_X12_lettersTold 0 rfl) rfl ?_
  refine ev_clU (F1 := F_X12_letters) (fun rY mY hY => ea_runV (As := []) (ea_at dt_X12_lettersTold 1 rfl) ml_X12_117 mv_X12_letters (ok_X12_letters G m  rY mY hY) sh_272 rfl rfl rfl (Nat.le_of_ble_eq_true rfl) rfl) rfl (fun r2 m1 => ?_)
  refine ev_iconst (ea_at dt_X12_lettersTold 2 rfl) ic_0 ?_
  refine ev_istore_n (ls' := [some (.ref 272), some (.int p1), some (.int 0), none, none, none]) (ea_at dt_X12_lettersTold 3 rfl) (ea_lt rfl) rfl ?_
  refine ev_aload_n (ea_at dt_X12_lettersTold 4 rfl) rfl ?_
  refine ev_getI (ea_at dt_X12_lettersTold 5 rfl) fl_X12_92 sh_272 rfl ?_
  refine ev_i (fun x3 => ?_)
  refine ev_aload_n (ea_at dt_X12_lettersTold 6 rfl) rfl ?_
  refine ev_getI (ea_at dt_X12_lettersTold 7 rfl) fl_X12_102 sh_272 rfl ?_
  refine ev_i (fun x4 => ?_)
  refine ev_icmp_le (tgt := 21) (ea_at dt_X12_lettersTold 8 rfl) rfl (fun _ => ?_) (fun _ => ?_)
  · refine ev_iconst (ea_at dt_X12_lettersTold 11 rfl) ic_0 ?_
    exact ev_drop (l' := [some (.ref 272), some (.int p1), some (.int 0), none, none, none]) ⟨Or.inr rfl, Or.inr rfl, Or.inr rfl, Or.inl rfl, Or.inl rfl, Or.inl rfl, trivial⟩ (jn_X12_lettersTold_22 G p1 0 0 m1  hR)
  · refine ev_iconst (ea_at dt_X12_lettersTold 9 rfl) ic_1 ?_
    refine ev_goto (tgt := 22) (ea_at dt_X12_lettersTold 10 rfl) rfl ?_
    exact ev_drop (l' := [some (.ref 272), some (.int p1), some (.int 0), none, none, none]) ⟨Or.inr rfl, Or.inr rfl, Or.inr rfl, Or.inl rfl, Or.inl rfl, Or.inl rfl, trivial⟩ (jn_X12_lettersTold_22 G p1 0 1 m1  hR)
