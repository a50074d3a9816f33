def F_X12_thrown : ea_F := (ea_rm 8 0 0, cX12_thrown, RX12, some .int, 1, [], 0, 0)
def D_X12_thrown : List (Nat × Instr × Nat) := [(0, .aload_n 0, 1), (1, .getfield 3, 3), (4, .ireturn, 1)]
theorem dt_X12_thrown : ∀ q ∈ D_X12_thrown, decode cX12_thrown q.1 = .ok q.2 := by decide +kernel
theorem mv_X12_thrown : ea_MV yX12_thrown (F_X12_thrown) 0 := ⟨⟨List.mem_append_right _ (List.mem_of_getElem? (i := 13) (by decide +kernel)), List.mem_append_right _ (List.mem_of_getElem? (i := 1399) (by decide +kernel)), ⟨by decide, by decide⟩, by decide +kernel⟩, List.mem_append_right _ (List.mem_of_getElem? (i := 1397) (by decide +kernel)), List.mem_append_right _ (List.mem_of_getElem? (i := 1398) (by decide +kernel))⟩
def f_X12_thrown (m : ea_M) : Option (Int32 × ea_M) :=
  ea_bd (m 272 0) fun x1 =>
  some (x1, m)
set_option maxHeartbeats 300000 in
theorem ok_X12_thrown (G : ea_G) (m : ea_M)  (rZ : Int32) (mZ : ea_M) (hZ : f_X12_thrown m = some (rZ, mZ)) : ea_Met G yX12_thrown F_X12_thrown [.ref 272] m (0, rZ, mZ) := by
  refine ea_met (F := F_X12_thrown) (by decide +kernel) rfl rfl (Nat.le_of_ble_eq_true rfl) (by simp only [List.mem_cons, List.not_mem_nil, or_false]; intro v hv; rcases hv with rfl <;> rfl) ((?_ : ea_E G F_X12_thrown (0, rZ, mZ) 0 [some (.ref 272)] [] m 0 0 (f_X12_thrown m) (fun t => t = (rZ, mZ))) (rZ, mZ) hZ rfl)
  have hR : ∀ t : Int32 × ea_M, t = (rZ, mZ) → ((0, rZ, mZ) : ea_O) = (0, t) := fun t h => by rw [h]
  unfold f_X12_thrown
  refine ev_aload_n (ea_at dt_X12_thrown 0 rfl) rfl ?_
  refine ev_getI (ea_at dt_X12_thrown 1 rfl) fl_X12_3 sh_272 rfl ?_
  refine ev_i (fun x1 => ?_)
  exact ev_iret (ea_at dt_X12_thrown 2 rfl) rfl ⟨by decide, by decide⟩ (fun h => hR _ h)
def F_X12_throwsIf : ea_F := (ea_rm 8 0 0, cX12_throwsIf, RX12, some .boolean, 3, [], 0, 0)
def D_X12_throwsIf : List (Nat × Instr × Nat) := [(0, .iload_n 1, 1), (1, .ifCond .eq 8, 3), (4, .aload_n 0, 1), (5, .iload_n 2, 1), (6, .putfield 3, 3), (9, .iload_n 1, 1), (10, .ireturn, 1)]
theorem dt_X12_throwsIf : ∀ q ∈ D_X12_throwsIf, decode cX12_throwsIf q.1 = .ok q.2 := by decide +kernel
theorem mv_X12_throwsIf : ea_MV yX12_throwsIf (F_X12_throwsIf) 2 := ⟨⟨List.mem_append_right _ (List.mem_of_getElem? (i := 13) (by decide +kernel)), List.mem_append_right _ (List.mem_of_getElem? (i := 1693) (by decide +kernel)), ⟨by decide, by decide⟩, by decide +kernel⟩, List.mem_append_right _ (List.mem_of_getElem? (i := 1692) (by decide +kernel)), List.mem_append_left _ (List.mem_of_getElem? (i := 73) (by decide +kernel))⟩
def f_X12_throwsIf (p1 : Int32) (p2 : Int32) (m : ea_M) : Option (Int32 × ea_M) :=
  if p1 = 0 then
  ea_gz p1 (some (p1, m))
  else
  ea_bd (ea_st m 272 0 p2) fun m1 =>
  ea_gz p1 (some (p1, m1))
set_option maxHeartbeats 300000 in
theorem ok_X12_throwsIf (G : ea_G) (p1 : Int32) (p2 : Int32) (m : ea_M)  (rZ : Int32) (mZ : ea_M) (hZ : f_X12_throwsIf p1 p2 m = some (rZ, mZ)) : ea_Met G yX12_throwsIf F_X12_throwsIf [.ref 272, .int p1, .int p2] m (0, rZ, mZ) := by
  refine ea_met (F := F_X12_throwsIf) (by decide +kernel) rfl rfl (Nat.le_of_ble_eq_true rfl) (by simp only [List.mem_cons, List.not_mem_nil, or_false]; intro v hv; rcases hv with rfl | rfl | rfl <;> rfl) ((?_ : ea_E G F_X12_throwsIf (0, rZ, mZ) 0 [some (.ref 272), some (.int p1), some (.int p2)] [] m 0 0 (f_X12_throwsIf p1 p2 m) (fun t => t = (rZ, mZ))) (rZ, mZ) hZ rfl)
  have hR : ∀ t : Int32 × ea_M, t = (rZ, mZ) → ((0, rZ, mZ) : ea_O) = (0, t) := fun t h => by rw [h]
  unfold f_X12_throwsIf
  refine ev_iload_n (ea_at dt_X12_throwsIf 0 rfl) rfl ?_
  refine ev_if_eq (tgt := 9) (ea_at dt_X12_throwsIf 1 rfl) rfl (fun _ => ?_) (fun _ => ?_)
  · refine ev_iload_n (ea_at dt_X12_throwsIf 5 rfl) rfl ?_
    exact ev_zretG (ea_at dt_X12_throwsIf 6 rfl) rfl ⟨by decide, by decide⟩ (fun h => hR _ h)
  · refine ev_aload_n (ea_at dt_X12_throwsIf 2 rfl) rfl ?_
    refine ev_iload_n (ea_at dt_X12_throwsIf 3 rfl) rfl ?_
    refine ev_putI (ea_at dt_X12_throwsIf 4 rfl) fl_X12_3 fp_12_0 sh_272 rfl ?_
    refine ev_m (fun m1 => ?_)
    refine ev_iload_n (ea_at dt_X12_throwsIf 5 rfl) rfl ?_
    exact ev_zretG (ea_at dt_X12_throwsIf 6 rfl) rfl ⟨by decide, by decide⟩ (fun h => hR _ h)
def F_X12_in : ea_F := (ea_rm 8 0 0, cX12_in, RX12, some .boolean, 3, [], 0, 0)
def D_X12_in : List (Nat × Instr × Nat) := [(0, .iload_n 0, 1), (1, .iload_n 1, 1), (2, .if_icmp .lt 12, 3), (5, .iload_n 0, 1), (6, .iload_n 2, 1), (7, .if_icmp .gt 7, 3), (10, .iconst 1, 1), (11, .goto 4, 3), (14, .iconst 0, 1), (15, .ireturn, 1)]
theorem dt_X12_in : ∀ q ∈ D_X12_in, decode cX12_in q.1 = .ok q.2 := by decide +kernel
theorem mv_X12_in : ea_MS yX12_in (F_X12_in) 3 := ⟨⟨List.mem_append_right _ (List.mem_of_getElem? (i := 13) (by decide +kernel)), List.mem_append_right _ (List.mem_of_getElem? (i := 1585) (by decide +kernel)), ⟨by decide, by decide⟩, by decide +kernel⟩, List.mem_append_right _ (List.mem_of_getElem? (i := 1584) (by decide +kernel))⟩
def f_X12_in (p1 : Int32) (p2 : Int32) (p3 : Int32) (m : ea_M) : Option (Int32 × ea_M) :=
  if p1 < p2 then
  some (0, m)
  else
  if p3 < p1 then
  some (0, m)
  else
  some (1, m)
set_option maxHeartbeats 300000 in
theorem ok_X12_in (G : ea_G) (p1 : Int32) (p2 : Int32) (p3 : Int32) (m : ea_M)  (rZ : Int32) (mZ : ea_M) (hZ : f_X12_in p1 p2 p3 m = some (rZ, mZ)) : ea_Met G yX12_in F_X12_in [.int p1, .int p2, .int p3] m (0, rZ, mZ) := by
  refine ea_met (F := F_X12_in) (by decide +kernel) rfl rfl (Nat.le_of_ble_eq_true rfl) (by simp only [List.mem_cons, List.not_mem_nil, or_false]; intro v hv; rcases hv with rfl | rfl | rfl <;> rfl) ((?_ : ea_E G F_X12_in (0, rZ, mZ) 0 [some (.int p1), some (.int p2), some (.int p3)] [] m 0 0 (f_X12_in p1 p2 p3 m) (fun t => t = (rZ, mZ))) (rZ, mZ) hZ rfl)
  have hR : ∀ t : Int32 × ea_M, t = (rZ, mZ) → ((0, rZ, mZ) : ea_O) = (0, t) := fun t h => by rw [h]
  unfold f_X12_in
  refine ev_iload_n (ea_at dt_X12_in 0 rfl) rfl ?_
  refine ev_iload_n (ea_at dt_X12_in 1 rfl) rfl ?_
  refine ev_icmp_lt (tgt := 14) (ea_at dt_X12_in 2 rfl) rfl (fun _ => ?_) (fun _ => ?_)
  · refine ev_iconst (ea_at dt_X12_in 8 rfl) ic_0 ?_
    exact ev_zret (by decide) (ea_at dt_X12_in 9 rfl) rfl ⟨by decide, by decide⟩ (fun h => hR _ h)
  · refine ev_iload_n (ea_at dt_X12_in 3 rfl) rfl ?_
    refine ev_iload_n (ea_at dt_X12_in 4 rfl) rfl ?_
    refine ev_icmp_gt (tgt := 14) (ea_at dt_X12_in 5 rfl) rfl (fun _ => ?_) (fun _ => ?_)
    · refine ev_iconst (ea_at dt_X12_in 8 rfl) ic_0 ?_
      exact ev_zret (by decide) (ea_at dt_X12_in 9 rfl) rfl ⟨by decide, by decide⟩ (fun h => hR _ h)
    · refine ev_iconst (ea_at dt_X12_in 6 rfl) ic_1 ?_
      refine ev_goto (tgt := 15) (ea_at dt_X12_in 7 rfl) rfl ?_
      exact ev_zret (by decide) (ea_at dt_X12_in 9 rfl) rfl ⟨by decide, by decide⟩ (fun h => hR _ h)
def F_X12_has : ea_F := (ea_rm 8 0 0, cX12_has, RX12, some .boolean, 2, [], 0, 0)
def D_X12_has : List (Nat × Instr × Nat) := [(0, .iload_n 0, 1), (1, .iload_n 1, 1), (2, .ishr, 1), (3, .iconst 1, 1), (4, .iand, 1), (5, .iconst 1, 1), (6, .if_icmp .ne 7, 3), (9, .iconst 1, 1), (10, .goto 4, 3), (13, .iconst 0, 1), (14, .ireturn, 1)]
theorem dt_X12_has : ∀ q ∈ D_X12_has, decode cX12_has q.1 = .ok q.2 := by decide +kernel
theorem mv_X12_has : ea_MS yX12_has (F_X12_has) 2 := ⟨⟨List.mem_append_right _ (List.mem_of_getElem? (i := 13) (by decide +kernel)), List.mem_append_right _ (List.mem_of_getElem? (i := 1588) (by decide +kernel)), ⟨by decide, by decide⟩, by decide +kernel⟩, List.mem_append_right _ (List.mem_of_getElem? (i := 1587) (by decide +kernel))⟩
def f_X12_has (p1 : Int32) (p2 : Int32) (m : ea_M) : Option (Int32 × ea_M) :=
  ea_bd ((p1 >>> (p2 &&& 31)) &&& 1) fun x1 =>
  if x1 = 1 then
  some (1, m)
  else
  some (0, m)
set_option maxHeartbeats 300000 in
theorem ok_X12_has (G : ea_G) (p1 : Int32) (p2 : Int32) (m : ea_M)  (rZ : Int32) (mZ : ea_M) (hZ : f_X12_has p1 p2 m = some (rZ, mZ)) : ea_Met G yX12_has F_X12_has [.int p1, .int p2] m (0, rZ, mZ) := by
  refine ea_met (F := F_X12_has) (by decide +kernel) rfl rfl (Nat.le_of_ble_eq_true rfl) (by simp only [List.mem_cons, List.not_mem_nil, or_false]; intro v hv; rcases hv with rfl | rfl <;> rfl) ((?_ : ea_E G F_X12_has (0, rZ, mZ) 0 [some (.int p1), some (.int p2)] [] m 0 0 (f_X12_has p1 p2 m) (fun t => t = (rZ, mZ))) (rZ, mZ) hZ rfl)
  have hR : ∀ t : Int32 × ea_M, t = (rZ, mZ) → ((0, rZ, mZ) : ea_O) = (0, t) := fun t h => by rw [h]
  unfold f_X12_has
  refine ev_iload_n (ea_at dt_X12_has 0 rfl) rfl ?_
  refine ev_iload_n (ea_at dt_X12_has 1 rfl) rfl ?_
  refine ev_ishr (ea_at dt_X12_has 2 rfl) ?_
  refine ev_iconst (ea_at dt_X12_has 3 rfl) ic_1 ?_
  refine ev_iand (ea_at dt_X12_has 4 rfl) ?_
  refine ev_i (fun x1 => ?_)
  refine ev_iconst (ea_at dt_X12_has 5 rfl) ic_1 ?_
  refine ev_icmp_ne (tgt := 13) (ea_at dt_X12_has 6 rfl) rfl (fun _ => ?_) (fun _ => ?_)
  · refine ev_iconst (ea_at dt_X12_has 7 rfl) ic_1 ?_
    refine ev_goto (tgt := 14) (ea_at dt_X12_has 8 rfl) rfl ?_
    exact ev_zret (by decide) (ea_at dt_X12_has 10 rfl) rfl ⟨by decide, by decide⟩ (fun h => hR _ h)
  · refine ev_iconst (ea_at dt_X12_has 9 rfl) ic_0 ?_
    exact ev_zret (by decide) (ea_at dt_X12_has 10 rfl) rfl ⟨by decide, by decide⟩ (fun h => hR _ h)
def F_X12_image : ea_F := (ea_rm 8 0 0, cX12_image, RX12, none, 2, [], 0, 0)
def D_X12_image : List (Nat × Instr × Nat) := [(0, .aload_n 0, 1), (1, .iconst 0, 1), (2, .putfield 3, 3), (5, .iconst 0, 1), (6, .istore_n 1, 1), (7, .iload_n 1, 1), (8, .sipush 1331, 3), (11, .if_icmp .ge 21, 3), (14, .aload_n 0, 1), (15, .getfield 17, 3), (18, .iload_n 1, 1), (19, .aload_n 0, 1), (20, .getfield 13, 3), (23, .iload_n 1, 1), (24, .iaload, 1), (25, .iastore, 1), (26, .iinc 1 1, 3), (29, .goto (-22), 3), (32, .aload_n 0, 1), (33, .iconst 1, 1), (34, .putfield 60, 3), (37, .return_, 1)]
theorem dt_X12_image : ∀ q ∈ D_X12_image, decode cX12_image q.1 = .ok q.2 := by decide +kernel
theorem mv_X12_image : ea_MV yX12_image (F_X12_image) 0 := ⟨⟨List.mem_append_right _ (List.mem_of_getElem? (i := 13) (by decide +kernel)), List.mem_append_right _ (List.mem_of_getElem? (i := 1500) (by decide +kernel)), ⟨by decide, by decide⟩, by decide +kernel⟩, List.mem_append_right _ (List.mem_of_getElem? (i := 1498) (by decide +kernel)), List.mem_append_right _ (List.mem_of_getElem? (i := 1499) (by decide +kernel))⟩
def f_X12_image_s7  (s7 : Int32 × ea_M) : Option ((Int32 × ea_M) ⊕ (ea_M)) :=
  if 1331 ≤ s7.1 then
  some (.inr s7.2)
  else
  ea_g s7.1 2180 (ea_bd (s7.2 273 (Int32.toNatClampNeg s7.1)) fun x2 =>
  ea_g s7.1 1331 (ea_bd (ea_st s7.2 274 (Int32.toNatClampNeg s7.1) x2) fun m3 =>
  some (.inl (s7.1 + 1, m3))))
def f_X12_image (m : ea_M) : Option (Int32 × ea_M) :=
  ea_bd (ea_st m 272 0 0) fun m1 =>
  (ea_loop f_X12_image_s7 ea_fuel (0, m1)).bind (fun x7s =>
  ea_bd (ea_st x7s 272 6 1) fun m4 =>
  some (0, m4))
set_option maxHeartbeats 300000 in
theorem lp_X12_image_7 (G : ea_G) {res : ea_O}    {Ψ : ea_M → Prop} (hX : ∀ x7s : ea_M, Ψ x7s → ea_Ev G F_X12_image res 32 [some (.ref 272), none] [] x7s 0 0) : ∀ (f : Nat) (s7 : Int32 × ea_M), ea_E G F_X12_image res 7 [some (.ref 272), some (.int s7.1)] [] s7.2 0 0 (ea_loop f_X12_image_s7 f s7) Ψ := by
  refine ev_loop (G := G) (F := F_X12_image) (res := res) (pc := 7) (st := []) (k := 0) (n := 0) (step := f_X12_image_s7) (Ψ := Ψ) (fun (s7 : Int32 × ea_M) => [some (.ref 272), some (.int s7.1)]) (fun (s7 : Int32 × ea_M) => s7.2) (fun s7 => ?_)
  have hC : ∀ s7 : Int32 × ea_M, (Sum.elim (fun s7 : Int32 × ea_M => ea_Ev G F_X12_image res 7 [some (.ref 272), some (.int s7.1)] [] s7.2 0 0) Ψ) (.inl s7) → ea_Ev G F_X12_image res 7 [some (.ref 272), some (.int s7.1)] [] s7.2 0 0 := fun _ h => h
  have hX : ∀ x7s : ea_M, (Sum.elim (fun s7 : Int32 × ea_M => ea_Ev G F_X12_image res 7 [some (.ref 272), some (.int s7.1)] [] s7.2 0 0) Ψ) (.inr x7s) → ea_Ev G F_X12_image res 32 [some (.ref 272), none] [] x7s 0 0 := hX
  unfold f_X12_image_s7
  refine ev_iload_n (ea_at dt_X12_image 5 rfl) rfl ?_
  refine ev_sipush (ea_at dt_X12_image 6 rfl) sp_1331 ?_
  refine ev_icmp_ge (tgt := 32) (ea_at dt_X12_image 7 rfl) rfl (fun _ => ?_) (fun _ => ?_)
  · exact ev_leaf (fun h => ea_drop (l' := [some (.ref 272), none]) ⟨Or.inr rfl, Or.inl rfl, trivial⟩ (hX s7.2 h))
  · refine ev_aload_n (ea_at dt_X12_image 8 rfl) rfl ?_
    refine ev_getR (ea_at dt_X12_image 9 rfl) fl_X12_17 sh_272 rfl ?_
    refine ev_iload_n (ea_at dt_X12_image 10 rfl) rfl ?_
    refine ev_aload_n (ea_at dt_X12_image 11 rfl) rfl ?_
    refine ev_getR (ea_at dt_X12_image 12 rfl) fl_X12_13 sh_272 rfl ?_
    refine ev_iload_n (ea_at dt_X12_image 13 rfl) rfl ?_
    refine ev_iaload (ea_at dt_X12_image 14 rfl) sh_273 (by decide) ?_
    refine ev_i (fun x2 => ?_)
    refine ev_iastore (ea_at dt_X12_image 15 rfl) sh_274 (by decide) ?_
    refine ev_m (fun m3 => ?_)
    refine ev_iinc (ls' := [some (.ref 272), some (.int (s7.1 + 1))]) (ea_at dt_X12_image 16 rfl) rfl (congrArg (fun z => _ + z) ic_1) (ea_lt rfl) rfl ?_
    refine ev_goto (tgt := 7) (ea_at dt_X12_image 17 rfl) rfl ?_
    exact ev_leaf (fun h => ea_drop (l' := [some (.ref 272), some (.int (s7.1 + 1))]) ⟨Or.inr rfl, Or.inr rfl, trivial⟩ (hC (s7.1 + 1, m3) h))
set_option maxHeartbeats 300000 in
theorem ok_X12_image (G : ea_G) (m : ea_M)  (rZ : Int32) (mZ : ea_M) (hZ : f_X12_image m = some (rZ, mZ)) : ea_Met G yX12_image F_X12_image [.ref 272] m (0, rZ, mZ) := by
  refine ea_met (F := F_X12_image) (by decide +kernel) rfl rfl (Nat.le_of_ble_eq_true rfl) (by simp only [List.mem_cons, List.not_mem_nil, or_false]; intro v hv; rcases hv with rfl <;> rfl) ((?_ : ea_E G F_X12_image (0, rZ, mZ) 0 [some (.ref 272), none] [] m 0 0 (f_X12_image m) (fun t => t = (rZ, mZ))) (rZ, mZ) hZ rfl)
  have hR : ∀ t : Int32 × ea_M, t = (rZ, mZ) → ((0, rZ, mZ) : ea_O) = (0, t) := fun t h => by rw [h]
  unfold f_X12_image
  refine ev_aload_n (ea_at dt_X12_image 0 rfl) rfl ?_
  refine ev_iconst (ea_at dt_X12_image 1 rfl) ic_0 ?_
  refine ev_putI (ea_at dt_X12_image 2 rfl) fl_X12_3 fp_12_0 sh_272 rfl ?_
  refine ev_m (fun m1 => ?_)
  refine ev_iconst (ea_at dt_X12_image 3 rfl) ic_0 ?_
  refine ev_istore_n (ls' := [some (.ref 272), some (.int 0)]) (ea_at dt_X12_image 4 rfl) (ea_lt rfl) rfl ?_
  refine ev_drop (l' := [some (.ref 272), some (.int 0)]) ⟨Or.inr rfl, Or.inr rfl, trivial⟩ ?_
  refine ev_bind (lp_X12_image_7 G   (fun x7s h => ?_) ea_fuel (0, m1))
  obtain ⟨t1, e1, q1⟩ := h
  refine (?_ : ea_E G F_X12_image (0, rZ, mZ) 32 [some (.ref 272), none] [] x7s 0 0 _ (fun t => t = (rZ, mZ))) t1 e1 q1
  refine ev_aload_n (ea_at dt_X12_image 18 rfl) rfl ?_
  refine ev_iconst (ea_at dt_X12_image 19 rfl) ic_1 ?_
  refine ev_putZ (by decide) (ea_at dt_X12_image 20 rfl) fl_X12_60 fp_12_6 sh_272 rfl ?_
  refine ev_m (fun m4 => ?_)
  exact ev_vret (ea_at dt_X12_image 21 rfl) rfl ⟨by decide, by decide⟩ (fun h => ⟨0, hR _ h⟩)
def F_X12_back : ea_F := (ea_rm 8 0 0, cX12_back, RX12, some .boolean, 2, [], 0, 0)
def D_X12_back : List (Nat × Instr × Nat) := [(0, .aload_n 0, 1), (1, .iconst 0, 1), (2, .putfield 3, 3), (5, .aload_n 0, 1), (6, .getfield 60, 3), (9, .ifCond .ne 5, 3), (12, .iconst 0, 1), (13, .ireturn, 1), (14, .iconst 0, 1), (15, .istore_n 1, 1), (16, .iload_n 1, 1), (17, .sipush 1331, 3), (20, .if_icmp .ge 21, 3), (23, .aload_n 0, 1), (24, .getfield 13, 3), (27, .iload_n 1, 1), (28, .aload_n 0, 1), (29, .getfield 17, 3), (32, .iload_n 1, 1), (33, .iaload, 1), (34, .iastore, 1), (35, .iinc 1 1, 3), (38, .goto (-22), 3), (41, .aload_n 0, 1), (42, .iconst 0, 1), (43, .putfield 64, 3), (46, .iconst 1, 1), (47, .ireturn, 1)]
theorem dt_X12_back : ∀ q ∈ D_X12_back, decode cX12_back q.1 = .ok q.2 := by decide +kernel
theorem mv_X12_back : ea_MV yX12_back (F_X12_back) 0 := ⟨⟨List.mem_append_right _ (List.mem_of_getElem? (i := 13) (by decide +kernel)), List.mem_append_right _ (List.mem_of_getElem? (i := 1504) (by decide +kernel)), ⟨by decide, by decide⟩, by decide +kernel⟩, List.mem_append_right _ (List.mem_of_getElem? (i := 1502) (by decide +kernel)), List.mem_append_right _ (List.mem_of_getElem? (i := 1503) (by decide +kernel))⟩
def f_X12_back_s16  (s16 : Int32 × ea_M) : Option ((Int32 × ea_M) ⊕ (ea_M)) :=
  if 1331 ≤ s16.1 then
  some (.inr s16.2)
  else
  ea_g s16.1 1331 (ea_bd (s16.2 274 (Int32.toNatClampNeg s16.1)) fun x3 =>
  ea_g s16.1 2180 (ea_bd (ea_st s16.2 273 (Int32.toNatClampNeg s16.1) x3) fun m4 =>
  some (.inl (s16.1 + 1, m4))))
def f_X12_back (m : ea_M) : Option (Int32 × ea_M) :=
  ea_bd (ea_st m 272 0 0) fun m1 =>
  ea_bd (m1 272 6) fun x2 =>
  if x2 = 0 then
  some (0, m1)
  else
  (ea_loop f_X12_back_s16 ea_fuel (0, m1)).bind (fun x16s =>
  ea_bd (ea_st x16s 272 7 0) fun m5 =>
  some (1, m5))
set_option maxHeartbeats 300000 in
theorem lp_X12_back_16 (G : ea_G) {res : ea_O}    {Ψ : ea_M → Prop} (hX : ∀ x16s : ea_M, Ψ x16s → ea_Ev G F_X12_back res 41 [some (.ref 272), none] [] x16s 0 0) : ∀ (f : Nat) (s16 : Int32 × ea_M), ea_E G F_X12_back res 16 [some (.ref 272), some (.int s16.1)] [] s16.2 0 0 (ea_loop f_X12_back_s16 f s16) Ψ := by
  refine ev_loop (G := G) (F := F_X12_back) (res := res) (pc := 16) (st := []) (k := 0) (n := 0) (step := f_X12_back_s16) (Ψ := Ψ) (fun (s16 : Int32 × ea_M) => [some (.ref 272), some (.int s16.1)]) (fun (s16 : Int32 × ea_M) => s16.2) (fun s16 => ?_)
  have hC : ∀ s16 : Int32 × ea_M, (Sum.elim (fun s16 : Int32 × ea_M => ea_Ev G F_X12_back res 16 [some (.ref 272), some (.int s16.1)] [] s16.2 0 0) Ψ) (.inl s16) → ea_Ev G F_X12_back res 16 [some (.ref 272), some (.int s16.1)] [] s16.2 0 0 := fun _ h => h
  have hX : ∀ x16s : ea_M, (Sum.elim (fun s16 : Int32 × ea_M => ea_Ev G F_X12_back res 16 [some (.ref 272), some (.int s16.1)] [] s16.2 0 0) Ψ) (.inr x16s) → ea_Ev G F_X12_back res 41 [some (.ref 272), none] [] x16s 0 0 := hX
  unfold f_X12_back_s16
  refine ev_iload_n (ea_at dt_X12_back 10 rfl) rfl ?_
  refine ev_sipush (ea_at dt_X12_back 11 rfl) sp_1331 ?_
  refine ev_icmp_ge (tgt := 41) (ea_at dt_X12_back 12 rfl) rfl (fun _ => ?_) (fun _ => ?_)
  · exact ev_leaf (fun h => ea_drop (l' := [some (.ref 272), none]) ⟨Or.inr rfl, Or.inl rfl, trivial⟩ (hX s16.2 h))
  · refine ev_aload_n (ea_at dt_X12_back 13 rfl) rfl ?_
    refine ev_getR (ea_at dt_X12_back 14 rfl) fl_X12_13 sh_272 rfl ?_
    refine ev_iload_n (ea_at dt_X12_back 15 rfl) rfl ?_
    refine ev_aload_n (ea_at dt_X12_back 16 rfl) rfl ?_
    refine ev_getR (ea_at dt_X12_back 17 rfl) fl_X12_17 sh_272 rfl ?_
    refine ev_iload_n (ea_at dt_X12_back 18 rfl) rfl ?_
    refine ev_iaload (ea_at dt_X12_back 19 rfl) sh_274 (by decide) ?_
    refine ev_i (fun x3 => ?_)
    refine ev_iastore (ea_at dt_X12_back 20 rfl) sh_273 (by decide) ?_
    refine ev_m (fun m4 => ?_)
    refine ev_iinc (ls' := [some (.ref 272), some (.int (s16.1 + 1))]) (ea_at dt_X12_back 21 rfl) rfl (congrArg (fun z => _ + z) ic_1) (ea_lt rfl) rfl ?_
    refine ev_goto (tgt := 16) (ea_at dt_X12_back 22 rfl) rfl ?_
    exact ev_leaf (fun h => ea_drop (l' := [some (.ref 272), some (.int (s16.1 + 1))]) ⟨Or.inr rfl, Or.inr rfl, trivial⟩ (hC (s16.1 + 1, m4) h))
set_option maxHeartbeats 300000 in
theorem ok_X12_back (G : ea_G) (m : ea_M)  (rZ : Int32) (mZ : ea_M) (hZ : f_X12_back m = some (rZ, mZ)) : ea_Met G yX12_back F_X12_back [.ref 272] m (0, rZ, mZ) := by
  refine ea_met (F := F_X12_back) (by decide +kernel) rfl rfl (Nat.le_of_ble_eq_true rfl) (by simp only [List.mem_cons, List.not_mem_nil, or_false]; intro v hv; rcases hv with rfl <;> rfl) ((?_ : ea_E G F_X12_back (0, rZ, mZ) 0 [some (.ref 272), none] [] m 0 0 (f_X12_back m) (fun t => t = (rZ, mZ))) (rZ, mZ) hZ rfl)
  have hR : ∀ t : Int32 × ea_M, t = (rZ, mZ) → ((0, rZ, mZ) : ea_O) = (0, t) := fun t h => by rw [h]
  unfold f_X12_back
  refine ev_aload_n (ea_at dt_X12_back 0 rfl) rfl ?_
  refine ev_iconst (ea_at dt_X12_back 1 rfl) ic_0 ?_
  refine ev_putI (ea_at dt_X12_back 2 rfl) fl_X12_3 fp_12_0 sh_272 rfl ?_
  refine ev_m (fun m1 => ?_)
  refine ev_aload_n (ea_at dt_X12_back 3 rfl) rfl ?_
  refine ev_getI (ea_at dt_X12_back 4 rfl) fl_X12_60 sh_272 rfl ?_
  refine ev_i (fun x2 => ?_)
  refine ev_if_ne (tgt := 14) (ea_at dt_X12_back 5 rfl) rfl (fun _ => ?_) (fun _ => ?_)
  · refine ev_iconst (ea_at dt_X12_back 6 rfl) ic_0 ?_
    exact ev_zret (by decide) (ea_at dt_X12_back 7 rfl) rfl ⟨by decide, by decide⟩ (fun h => hR _ h)
  · refine ev_iconst (ea_at dt_X12_back 8 rfl) ic_0 ?_
    refine ev_istore_n (ls' := [some (.ref 272), some (.int 0)]) (ea_at dt_X12_back 9 rfl) (ea_lt rfl) rfl ?_
    refine ev_drop (l' := [some (.ref 272), some (.int 0)]) ⟨Or.inr rfl, Or.inr rfl, trivial⟩ ?_
    refine ev_bind (lp_X12_back_16 G   (fun x16s h => ?_) ea_fuel (0, m1))
    obtain ⟨t1, e1, q1⟩ := h
    refine (?_ : ea_E G F_X12_back (0, rZ, mZ) 41 [some (.ref 272), none] [] x16s 0 0 _ (fun t => t = (rZ, mZ))) t1 e1 q1
    refine ev_aload_n (ea_at dt_X12_back 23 rfl) rfl ?_
    refine ev_iconst (ea_at dt_X12_back 24 rfl) ic_0 ?_
    refine ev_putI (ea_at dt_X12_back 25 rfl) fl_X12_64 fp_12_7 sh_272 rfl ?_
    refine ev_m (fun m5 => ?_)
    refine ev_iconst (ea_at dt_X12_back 26 rfl) ic_1 ?_
    exact ev_zret (by decide) (ea_at dt_X12_back 27 rfl) rfl ⟨by decide, by decide⟩ (fun h => hR _ h)
def F_X12_remembers : ea_F := (ea_rm 8 0 0, cX12_remembers, RX12, none, 2, [], 0, 0)
def D_X12_remembers : List (Nat × Instr × Nat) := [(0, .aload_n 0, 1), (1, .getfield 64, 3), (4, .bipush 12, 2), (6, .if_icmp .ne 37, 3), (9, .iconst 0, 1), (10, .istore_n 1, 1), (11, .iload_n 1, 1), (12, .sipush 5302, 3), (15, .if_icmp .ge 25, 3), (18, .aload_n 0, 1), (19, .getfield 26, 3), (22, .iload_n 1, 1), (23, .aload_n 0, 1), (24, .getfield 26, 3), (27, .iload_n 1, 1), (28, .sipush 482, 3), (31, .iadd, 1), (32, .iaload, 1), (33, .iastore, 1), (34, .iinc 1 1, 3), (37, .goto (-26), 3), (40, .goto 13, 3), (43, .aload_n 0, 1), (44, .dup, 1), (45, .getfield 64, 3), (48, .iconst 1, 1), (49, .iadd, 1), (50, .putfield 64, 3), (53, .iconst 0, 1), (54, .istore_n 1, 1), (55, .iload_n 1, 1), (56, .sipush 482, 3), (59, .if_icmp .ge 32, 3), (62, .aload_n 0, 1), (63, .getfield 26, 3), (66, .sipush 482, 3), (69, .aload_n 0, 1), (70, .getfield 64, 3), (73, .iconst 1, 1), (74, .isub, 1), (75, .imul, 1), (76, .iload_n 1, 1), (77, .iadd, 1), (78, .aload_n 0, 1), (79, .getfield 13, 3), (82, .iload_n 1, 1), (83, .iaload, 1), (84, .iastore, 1), (85, .iinc 1 1, 3), (88, .goto (-33), 3), (91, .return_, 1)]
theorem dt_X12_remembers : ∀ q ∈ D_X12_remembers, decode cX12_remembers q.1 = .ok q.2 := by decide +kernel
theorem mv_X12_remembers : ea_MV yX12_remembers (F_X12_remembers) 0 := ⟨⟨List.mem_append_right _ (List.mem_of_getElem? (i := 13) (by decide +kernel)), List.mem_append_right _ (List.mem_of_getElem? (i := 1924) (by decide +kernel)), ⟨by decide, by decide⟩, by decide +kernel⟩, List.mem_append_right _ (List.mem_of_getElem? (i := 1923) (by decide +kernel)), List.mem_append_left _ (List.mem_of_getElem? (i := 106) (by decide +kernel))⟩
def f_X12_remembers_s11  (s11 : Int32 × ea_M) : Option ((Int32 × ea_M) ⊕ (ea_M)) :=
  if 5302 ≤ s11.1 then
  some (.inr s11.2)
  else
  ea_g (s11.1 + 482) 5784 (ea_bd (s11.2 277 (Int32.toNatClampNeg (s11.1 + 482))) fun x2 =>
  ea_g s11.1 5784 (ea_bd (ea_st s11.2 277 (Int32.toNatClampNeg s11.1) x2) fun m3 =>
  some (.inl (s11.1 + 1, m3))))
def f_X12_remembers_s55  (s55 : Int32 × ea_M) : Option ((Int32 × ea_M) ⊕ (ea_M)) :=
  if 482 ≤ s55.1 then
  some (.inr s55.2)
  else
  ea_bd (s55.2 272 7) fun x5 =>
  ea_bd (482 * (x5 - 1)) fun x6 =>
  ea_g s55.1 2180 (ea_bd (s55.2 273 (Int32.toNatClampNeg s55.1)) fun x7 =>
  ea_g (x6 + s55.1) 5784 (ea_bd (ea_st s55.2 277 (Int32.toNatClampNeg (x6 + s55.1)) x7) fun m8 =>
  some (.inl (s55.1 + 1, m8))))
def f_X12_remembers_j53 (m4 : ea_M) : Option (Int32 × ea_M) :=
  (ea_loop f_X12_remembers_s55 ea_fuel (0, m4)).bind (fun x55s =>
  some (0, x55s))
def f_X12_remembers (m : ea_M) : Option (Int32 × ea_M) :=
  ea_bd (m 272 7) fun x1 =>
  if x1 = 12 then
  (ea_loop f_X12_remembers_s11 ea_fuel (0, m)).bind (fun x11s =>
  f_X12_remembers_j53 x11s)
  else
  ea_bd (m 272 7) fun x9 =>
  ea_bd (ea_st m 272 7 (x9 + 1)) fun m10 =>
  f_X12_remembers_j53 m10
set_option maxHeartbeats 300000 in
theorem lp_X12_remembers_11 (G : ea_G) {res : ea_O}    {Ψ : ea_M → Prop} (hX : ∀ x11s : ea_M, Ψ x11s → ea_Ev G F_X12_remembers res 40 [some (.ref 272), none] [] x11s 0 0) : ∀ (f : Nat) (s11 : Int32 × ea_M), ea_E G F_X12_remembers res 11 [some (.ref 272), some (.int s11.1)] [] s11.2 0 0 (ea_loop f_X12_remembers_s11 f s11) Ψ := by
  refine ev_loop (G := G) (F := F_X12_remembers) (res := res) (pc := 11) (st := []) (k := 0) (n := 0) (step := f_X12_remembers_s11) (Ψ := Ψ) (fun (s11 : Int32 × ea_M) => [some (.ref 272), some (.int s11.1)]) (fun (s11 : Int32 × ea_M) => s11.2) (fun s11 => ?_)
  have hC : ∀ s11 : Int32 × ea_M, (Sum.elim (fun s11 : Int32 × ea_M => ea_Ev G F_X12_remembers res 11 [some (.ref 272), some (.int s11.1)] [] s11.2 0 0) Ψ) (.inl s11) → ea_Ev G F_X12_remembers res 11 [some (.ref 272), some (.int s11.1)] [] s11.2 0 0 := fun _ h => h
  have hX : ∀ x11s : ea_M, (Sum.elim (fun s11 : Int32 × ea_M => ea_Ev G F_X12_remembers res 11 [some (.ref 272), some (.int s11.1)] [] s11.2 0 0) Ψ) (.inr x11s) → ea_Ev G F_X12_remembers res 40 [some (.ref 272), none] [] x11s 0 0 := hX
  unfold f_X12_remembers_s11
  refine ev_iload_n (ea_at dt_X12_remembers 6 rfl) rfl ?_
  refine ev_sipush (ea_at dt_X12_remembers 7 rfl) sp_5302 ?_
  refine ev_icmp_ge (tgt := 40) (ea_at dt_X12_remembers 8 rfl) rfl (fun _ => ?_) (fun _ => ?_)
  · exact ev_leaf (fun h => ea_drop (l' := [some (.ref 272), none]) ⟨Or.inr rfl, Or.inl rfl, trivial⟩ (hX s11.2 h))
  · refine ev_aload_n (ea_at dt_X12_remembers 9 rfl) rfl ?_
    refine ev_getR (ea_at dt_X12_remembers 10 rfl) fl_X12_26 sh_272 rfl ?_
    refine ev_iload_n (ea_at dt_X12_remembers 11 rfl) rfl ?_
    refine ev_aload_n (ea_at dt_X12_remembers 12 rfl) rfl ?_
    refine ev_getR (ea_at dt_X12_remembers 13 rfl) fl_X12_26 sh_272 rfl ?_
    refine ev_iload_n (ea_at dt_X12_remembers 14 rfl) rfl ?_
    refine ev_sipush (ea_at dt_X12_remembers 15 rfl) sp_482 ?_
    refine ev_iadd (ea_at dt_X12_remembers 16 rfl) ?_
    refine ev_iaload (ea_at dt_X12_remembers 17 rfl) sh_277 (by decide) ?_
    refine ev_i (fun x2 => ?_)
    refine ev_iastore (ea_at dt_X12_remembers 18 rfl) sh_277 (by decide) ?_
    refine ev_m (fun m3 => ?_)
    refine ev_iinc (ls' := [some (.ref 272), some (.int (s11.1 + 1))]) (ea_at dt_X12_remembers 19 rfl) rfl (congrArg (fun z => _ + z) ic_1) (ea_lt rfl) rfl ?_
    refine ev_goto (tgt := 11) (ea_at dt_X12_remembers 20 rfl) rfl ?_
    exact ev_leaf (fun h => ea_drop (l' := [some (.ref 272), some (.int (s11.1 + 1))]) ⟨Or.inr rfl, Or.inr rfl, trivial⟩ (hC (s11.1 + 1, m3) h))
set_option maxHeartbeats 300000 in
theorem lp_X12_remembers_55 (G : ea_G) {res : ea_O}    {Ψ : ea_M → Prop} (hX : ∀ x55s : ea_M, Ψ x55s → ea_Ev G F_X12_remembers res 91 [none, none] [] x55s 0 0) : ∀ (f : Nat) (s55 : Int32 × ea_M), ea_E G F_X12_remembers res 55 [some (.ref 272), some (.int s55.1)] [] s55.2 0 0 (ea_loop f_X12_remembers_s55 f s55) Ψ := by
  refine ev_loop (G := G) (F := F_X12_remembers) (res := res) (pc := 55) (st := []) (k := 0) (n := 0) (step := f_X12_remembers_s55) (Ψ := Ψ) (fun (s55 : Int32 × ea_M) => [some (.ref 272), some (.int s55.1)]) (fun (s55 : Int32 × ea_M) => s55.2) (fun s55 => ?_)
  have hC : ∀ s55 : Int32 × ea_M, (Sum.elim (fun s55 : Int32 × ea_M => ea_Ev G F_X12_remembers res 55 [some (.ref 272), some (.int s55.1)] [] s55.2 0 0) Ψ) (.inl s55) → ea_Ev G F_X12_remembers res 55 [some (.ref 272), some (.int s55.1)] [] s55.2 0 0 := fun _ h => h
  have hX : ∀ x55s : ea_M, (Sum.elim (fun s55 : Int32 × ea_M => ea_Ev G F_X12_remembers res 55 [some (.ref 272), some (.int s55.1)] [] s55.2 0 0) Ψ) (.inr x55s) → ea_Ev G F_X12_remembers res 91 [none, none] [] x55s 0 0 := hX
  unfold f_X12_remembers_s55
  refine ev_iload_n (ea_at dt_X12_remembers 30 rfl) rfl ?_
  refine ev_sipush (ea_at dt_X12_remembers 31 rfl) sp_482 ?_
  refine ev_icmp_ge (tgt := 91) (ea_at dt_X12_remembers 32 rfl) rfl (fun _ => ?_) (fun _ => ?_)
  · exact ev_leaf (fun h => ea_drop (l' := [none, none]) ⟨Or.inl rfl, Or.inl rfl, trivial⟩ (hX s55.2 h))
  · refine ev_aload_n (ea_at dt_X12_remembers 33 rfl) rfl ?_
    refine ev_getR (ea_at dt_X12_remembers 34 rfl) fl_X12_26 sh_272 rfl ?_
    refine ev_sipush (ea_at dt_X12_remembers 35 rfl) sp_482 ?_
    refine ev_aload_n (ea_at dt_X12_remembers 36 rfl) rfl ?_
    refine ev_getI (ea_at dt_X12_remembers 37 rfl) fl_X12_64 sh_272 rfl ?_
    refine ev_i (fun x5 => ?_)
    refine ev_iconst (ea_at dt_X12_remembers 38 rfl) ic_1 ?_
    refine ev_isub (ea_at dt_X12_remembers 39 rfl) ?_
    refine ev_imul (ea_at dt_X12_remembers 40 rfl) ?_
    refine ev_i (fun x6 => ?_)
    refine ev_iload_n (ea_at dt_X12_remembers 41 rfl) rfl ?_
    refine ev_iadd (ea_at dt_X12_remembers 42 rfl) ?_
    refine ev_aload_n (ea_at dt_X12_remembers 43 rfl) rfl ?_
    refine ev_getR (ea_at dt_X12_remembers 44 rfl) fl_X12_13 sh_272 rfl ?_
    refine ev_iload_n (ea_at dt_X12_remembers 45 rfl) rfl ?_
    refine ev_iaload (ea_at dt_X12_remembers 46 rfl) sh_273 (by decide) ?_
    refine ev_i (fun x7 => ?_)
    refine ev_iastore (ea_at dt_X12_remembers 47 rfl) sh_277 (by decide) ?_
    refine ev_m (fun m8 => ?_)
    refine ev_iinc (ls' := [some (.ref 272), some (.int (s55.1 + 1))]) (ea_at dt_X12_remembers 48 rfl) rfl (congrArg (fun z => _ + z) ic_1) (ea_lt rfl) rfl ?_
    refine ev_goto (tgt := 55) (ea_at dt_X12_remembers 49 rfl) rfl ?_
    exact ev_leaf (fun h => ea_drop (l' := [some (.ref 272), some (.int (s55.1 + 1))]) ⟨Or.inr rfl, Or.inr rfl, trivial⟩ (hC (s55.1 + 1, m8) h))
set_option maxHeartbeats 300000 in
theorem jn_X12_remembers_53 (G : ea_G) {res : ea_O}  (m4 : ea_M)  {Φ : (Int32 × ea_M) → Prop} (hR : ∀ t : Int32 × ea_M, Φ t → res = (0, t)) : ea_E G F_X12_remembers res 53 [some (.ref 272), none] [] m4 0 0 (f_X12_remembers_j53 m4) Φ := by
  unfold f_X12_remembers_j53
  refine ev_iconst (ea_at dt_X12_remembers 28 rfl) ic_0 ?_
  refine ev_istore_n (ls' := [some (.ref 272), some (.int 0)]) (ea_at dt_X12_remembers 29 rfl) (ea_lt rfl) rfl ?_
  refine ev_drop (l' := [some (.ref 272), some (.int 0)]) ⟨Or.inr rfl, Or.inr rfl, trivial⟩ ?_
  refine ev_bind (lp_X12_remembers_55 G   (fun x55s h => ?_) ea_fuel (0, m4))
  obtain ⟨t1, e1, q1⟩ := h
  refine (?_ : ea_E G F_X12_remembers res 91 [none, none] [] x55s 0 0 _ Φ) t1 e1 q1
  exact ev_vret (ea_at dt_X12_remembers 50 rfl) rfl ⟨by decide, by decide⟩ (fun h => ⟨0, hR _ h⟩)
set_option maxHeartbeats 300000 in
theorem ok_X12_remembers (G : ea_G) (m : ea_M)  (rZ : Int32) (mZ : ea_M) (hZ : f_X12_remembers m = some (rZ, mZ)) : ea_Met G yX12_remembers F_X12_remembers [.ref 272] m (0, rZ, mZ) := by
  refine ea_met (F := F_X12_remembers) (by decide +kernel) rfl rfl (Nat.le_of_ble_eq_true rfl) (by simp only [List.mem_cons, List.not_mem_nil, or_false]; intro v hv; rcases hv with rfl <;> rfl) ((?_ : ea_E G F_X12_remembers (0, rZ, mZ) 0 [some (.ref 272), none] [] m 0 0 (f_X12_remembers m) (fun t => t = (rZ, mZ))) (rZ, mZ) hZ rfl)
  have hR : ∀ t : Int32 × ea_M, t = (rZ, mZ) → ((0, rZ, mZ) : ea_O) = (0, t) := fun t h => by rw [h]
  unfold f_X12_remembers
  refine ev_aload_n (ea_at dt_X12_remembers 0 rfl) rfl ?_
  refine ev_getI (ea_at dt_X12_remembers 1 rfl) fl_X12_64 sh_272 rfl ?_
  refine ev_i (fun x1 => ?_)
  refine ev_bipush (ea_at dt_X12_remembers 2 rfl) bp_12 ?_
  refine ev_icmp_ne (tgt := 43) (ea_at dt_X12_remembers 3 rfl) rfl (fun _ => ?_) (fun _ => ?_)
  · refine ev_iconst (ea_at dt_X12_remembers 4 rfl) ic_0 ?_
    refine ev_istore_n (ls' := [some (.ref 272), some (.int 0)]) (ea_at dt_X12_remembers 5 rfl) (ea_lt rfl) rfl ?_
    refine ev_drop (l' := [some (.ref 272), some (.int 0)]) ⟨Or.inr rfl, Or.inr rfl, trivial⟩ ?_
    refine ev_bind (lp_X12_remembers_11 G   (fun x11s h => ?_) ea_fuel (0, m))
    obtain ⟨t1, e1, q1⟩ := h
    refine (?_ : ea_E G F_X12_remembers (0, rZ, mZ) 40 [some (.ref 272), none] [] x11s 0 0 _ (fun t => t = (rZ, mZ))) t1 e1 q1
    refine ev_goto (tgt := 53) (ea_at dt_X12_remembers 21 rfl) rfl ?_
    exact ev_drop (l' := [some (.ref 272), none]) ⟨Or.inr rfl, Or.inl rfl, trivial⟩ (jn_X12_remembers_53 G x11s  hR)
  · refine ev_aload_n (ea_at dt_X12_remembers 22 rfl) rfl ?_
    refine ev_dup (ea_at dt_X12_remembers 23 rfl) rfl ?_
    refine ev_getI (ea_at dt_X12_remembers 24 rfl) fl_X12_64 sh_272 rfl ?_
    refine ev_i (fun x9 => ?_)
    refine ev_iconst (ea_at dt_X12_remembers 25 rfl) ic_1 ?_
    refine ev_iadd (ea_at dt_X12_remembers 26 rfl) ?_
    refine ev_putI (ea_at dt_X12_remembers 27 rfl) fl_X12_64 fp_12_7 sh_272 rfl ?_
    refine ev_m (fun m10 => ?_)
    exact ev_drop (l' := [some (.ref 272), none]) ⟨Or.inr rfl, Or.inl rfl, trivial⟩ (jn_X12_remembers_53 G m10  hR)
def F_X12_undo : ea_F := (ea_rm 8 0 0, cX12_undo, RX12, some .boolean, 2, [], 0, 0)
def D_X12_undo : List (Nat × Instr × Nat) := [(0, .aload_n 0, 1), (1, .iconst 0, 1), (2, .putfield 3, 3), (5, .aload_n 0, 1), (6, .getfield 64, 3), (9, .ifCond .ne 5, 3), (12, .iconst 0, 1), (13, .ireturn, 1), (14, .aload_n 0, 1), (15, .dup, 1), (16, .getfield 64, 3), (19, .iconst 1, 1), (20, .isub, 1), (21, .putfield 64, 3), (24, .iconst 0, 1), (25, .istore_n 1, 1), (26, .iload_n 1, 1), (27, .sipush 482, 3), (30, .if_icmp .ge 30, 3), (33, .aload_n 0, 1), (34, .getfield 13, 3), (37, .iload_n 1, 1), (38, .aload_n 0, 1), (39, .getfield 26, 3), (42, .sipush 482, 3), (45, .aload_n 0, 1), (46, .getfield 64, 3), (49, .imul, 1), (50, .iload_n 1, 1), (51, .iadd, 1), (52, .iaload, 1), (53, .iastore, 1), (54, .iinc 1 1, 3), (57, .goto (-31), 3), (60, .iconst 1, 1), (61, .ireturn, 1)]
theorem dt_X12_undo : ∀ q ∈ D_X12_undo, decode cX12_undo q.1 = .ok q.2 := by decide +kernel
theorem mv_X12_undo : ea_MV yX12_undo (F_X12_undo) 0 := ⟨⟨List.mem_append_right _ (List.mem_of_getElem? (i := 13) (by decide +kernel)), List.mem_append_right _ (List.mem_of_getElem? (i := 1508) (by decide +kernel)), ⟨by decide, by decide⟩, by decide +kernel⟩, List.mem_append_right _ (List.mem_of_getElem? (i := 1506) (by decide +kernel)), List.mem_append_right _ (List.mem_of_getElem? (i := 1507) (by decide +kernel))⟩
def f_X12_undo_s26  (s26 : Int32 × ea_M) : Option ((Int32 × ea_M) ⊕ (ea_M)) :=
  if 482 ≤ s26.1 then
  some (.inr s26.2)
  else
  ea_bd (s26.2 272 7) fun x5 =>
  ea_bd ((482 * x5) + s26.1) fun x6 =>
  ea_g x6 5784 (ea_bd (s26.2 277 (Int32.toNatClampNeg x6)) fun x7 =>
  ea_g s26.1 2180 (ea_bd (ea_st s26.2 273 (Int32.toNatClampNeg s26.1) x7) fun m8 =>
  some (.inl (s26.1 + 1, m8))))
def f_X12_undo (m : ea_M) : Option (Int32 × ea_M) :=
  ea_bd (ea_st m 272 0 0) fun m1 =>
  ea_bd (m1 272 7) fun x2 =>
  if x2 = 0 then
  some (0, m1)
  else
  ea_bd (m1 272 7) fun x3 =>
  ea_bd (ea_st m1 272 7 (x3 - 1)) fun m4 =>
  (ea_loop f_X12_undo_s26 ea_fuel (0, m4)).bind (fun x26s =>
  some (1, x26s))
set_option maxHeartbeats 300000 in
theorem lp_X12_undo_26 (G : ea_G) {res : ea_O}    {Ψ : ea_M → Prop} (hX : ∀ x26s : ea_M, Ψ x26s → ea_Ev G F_X12_undo res 60 [none, none] [] x26s 0 0) : ∀ (f : Nat) (s26 : Int32 × ea_M), ea_E G F_X12_undo res 26 [some (.ref 272), some (.int s26.1)] [] s26.2 0 0 (ea_loop f_X12_undo_s26 f s26) Ψ := by
  refine ev_loop (G := G) (F := F_X12_undo) (res := res) (pc := 26) (st := []) (k := 0) (n := 0) (step := f_X12_undo_s26) (Ψ := Ψ) (fun (s26 : Int32 × ea_M) => [some (.ref 272), some (.int s26.1)]) (fun (s26 : Int32 × ea_M) => s26.2) (fun s26 => ?_)
  have hC : ∀ s26 : Int32 × ea_M, (Sum.elim (fun s26 : Int32 × ea_M => ea_Ev G F_X12_undo res 26 [some (.ref 272), some (.int s26.1)] [] s26.2 0 0) Ψ) (.inl s26) → ea_Ev G F_X12_undo res 26 [some (.ref 272), some (.int s26.1)] [] s26.2 0 0 := fun _ h => h
  have hX : ∀ x26s : ea_M, (Sum.elim (fun s26 : Int32 × ea_M => ea_Ev G F_X12_undo res 26 [some (.ref 272), some (.int s26.1)] [] s26.2 0 0) Ψ) (.inr x26s) → ea_Ev G F_X12_undo res 60 [none, none] [] x26s 0 0 := hX
  unfold f_X12_undo_s26
  refine ev_iload_n (ea_at dt_X12_undo 16 rfl) rfl ?_
  refine ev_sipush (ea_at dt_X12_undo 17 rfl) sp_482 ?_
  refine ev_icmp_ge (tgt := 60) (ea_at dt_X12_undo 18 rfl) rfl (fun _ => ?_) (fun _ => ?_)
  · exact ev_leaf (fun h => ea_drop (l' := [none, none]) ⟨Or.inl rfl, Or.inl rfl, trivial⟩ (hX s26.2 h))
  · refine ev_aload_n (ea_at dt_X12_undo 19 rfl) rfl ?_
    refine ev_getR (ea_at dt_X12_undo 20 rfl) fl_X12_13 sh_272 rfl ?_
    refine ev_iload_n (ea_at dt_X12_undo 21 rfl) rfl ?_
    refine ev_aload_n (ea_at dt_X12_undo 22 rfl) rfl ?_
    refine ev_getR (ea_at dt_X12_undo 23 rfl) fl_X12_26 sh_272 rfl ?_
    refine ev_sipush (ea_at dt_X12_undo 24 rfl) sp_482 ?_
    refine ev_aload_n (ea_at dt_X12_undo 25 rfl) rfl ?_
    refine ev_getI (ea_at dt_X12_undo 26 rfl) fl_X12_64 sh_272 rfl ?_
    refine ev_i (fun x5 => ?_)
    refine ev_imul (ea_at dt_X12_undo 27 rfl) ?_
    refine ev_iload_n (ea_at dt_X12_undo 28 rfl) rfl ?_
    refine ev_iadd (ea_at dt_X12_undo 29 rfl) ?_
    refine ev_i (fun x6 => ?_)
    refine ev_iaload (ea_at dt_X12_undo 30 rfl) sh_277 (by decide) ?_
    refine ev_i (fun x7 => ?_)
    refine ev_iastore (ea_at dt_X12_undo 31 rfl) sh_273 (by decide) ?_
    refine ev_m (fun m8 => ?_)
    refine ev_iinc (ls' := [some (.ref 272), some (.int (s26.1 + 1))]) (ea_at dt_X12_undo 32 rfl) rfl (congrArg (fun z => _ + z) ic_1) (ea_lt rfl) rfl ?_
    refine ev_goto (tgt := 26) (ea_at dt_X12_undo 33 rfl) rfl ?_
    exact ev_leaf (fun h => ea_drop (l' := [some (.ref 272), some (.int (s26.1 + 1))]) ⟨Or.inr rfl, Or.inr rfl, trivial⟩ (hC (s26.1 + 1, m8) h))
set_option maxHeartbeats 300000 in
theorem ok_X12_undo (G : ea_G) (m : ea_M)  (rZ : Int32) (mZ : ea_M) (hZ : f_X12_undo m = some (rZ, mZ)) : ea_Met G yX12_undo F_X12_undo [.ref 272] m (0, rZ, mZ) := by
  refine ea_met (F := F_X12_undo) (by decide +kernel) rfl rfl (Nat.le_of_ble_eq_true rfl) (by simp only [List.mem_cons, List.not_mem_nil, or_false]; intro v hv; rcases hv with rfl <;> rfl) ((?_ : ea_E G F_X12_undo (0, rZ, mZ) 0 [some (.ref 272), none] [] m 0 0 (f_X12_undo m) (fun t => t = (rZ, mZ))) (rZ, mZ) hZ rfl)
  have hR : ∀ t : Int32 × ea_M, t = (rZ, mZ) → ((0, rZ, mZ) : ea_O) = (0, t) := fun t h => by rw [h]
  unfold f_X12_undo
  refine ev_aload_n (ea_at dt_X12_undo 0 rfl) rfl ?_
  refine ev_iconst (ea_at dt_X12_undo 1 rfl) ic_0 ?_
  refine ev_putI (ea_at dt_X12_undo 2 rfl) fl_X12_3 fp_12_0 sh_272 rfl ?_
  refine ev_m (fun m1 => ?_)
  refine ev_aload_n (ea_at dt_X12_undo 3 rfl) rfl ?_
  refine ev_getI (ea_at dt_X12_undo 4 rfl) fl_X12_64 sh_272 rfl ?_
  refine ev_i (fun x2 => ?_)
  refine ev_if_ne (tgt := 14) (ea_at dt_X12_undo 5 rfl) rfl (fun _ => ?_) (fun _ => ?_)
  · refine ev_iconst (ea_at dt_X12_undo 6 rfl) ic_0 ?_
    exact ev_zret (by decide) (ea_at dt_X12_undo 7 rfl) rfl ⟨by decide, by decide⟩ (fun h => hR _ h)
  · refine ev_aload_n (ea_at dt_X12_undo 8 rfl) rfl ?_
    refine ev_dup (ea_at dt_X12_undo 9 rfl) rfl ?_
    refine ev_getI (ea_at dt_X12_undo 10 rfl) fl_X12_64 sh_272 rfl ?_
    refine ev_i (fun x3 => ?_)
    refine ev_iconst (ea_at dt_X12_undo 11 rfl) ic_1 ?_
    refine ev_isub (ea_at dt_X12_undo 12 rfl) ?_
    refine ev_putI (ea_at dt_X12_undo 13 rfl) fl_X12_64 fp_12_7 sh_272 rfl ?_
    refine ev_m (fun m4 => ?_)
    refine ev_iconst (ea_at dt_X12_undo 14 rfl) ic_0 ?_
    refine ev_istore_n (ls' := [some (.ref 272), some (.int 0)]) (ea_at dt_X12_undo 15 rfl) (ea_lt rfl) rfl ?_
    refine ev_drop (l' := [some (.ref 272), some (.int 0)]) ⟨Or.inr rfl, Or.inr rfl, trivial⟩ ?_
    refine ev_bind (lp_X12_undo_26 G   (fun x26s h => ?_) ea_fuel (0, m4))
    obtain ⟨t1, e1, q1⟩ := h
    refine (?_ : ea_E G F_X12_undo (0, rZ, mZ) 60 [none, none] [] x26s 0 0 _ (fun t => t = (rZ, mZ))) t1 e1 q1
    refine ev_iconst (ea_at dt_X12_undo 34 rfl) ic_1 ?_
    exact ev_zret (by decide) (ea_at dt_X12_undo 35 rfl) rfl ⟨by decide, by decide⟩ (fun h => hR _ h)
def F_X12_birds : ea_F := (ea_rm 8 0 0, cX12_birds, RX12, some .int, 1, [], 0, 0)
def D_X12_birds : List (Nat × Instr × Nat) := [(0, .aload_n 0, 1), (1, .getfield 13, 3), (4, .iconst 0, 1), (5, .iaload, 1), (6, .ireturn, 1)]
theorem dt_X12_birds : ∀ q ∈ D_X12_birds, decode cX12_birds q.1 = .ok q.2 := by decide +kernel
theorem mv_X12_birds : ea_MV yX12_birds (F_X12_birds) 0 := ⟨⟨List.mem_append_right _ (List.mem_of_getElem? (i := 13) (by decide +kernel)), List.mem_append_right _ (List.mem_of_getElem? (i := 1567) (by decide +kernel)), ⟨by decide, by decide⟩, by decide +kernel⟩, List.mem_append_right _ (List.mem_of_getElem? (i := 1566) (by decide +kernel)), List.mem_append_left _ (List.mem_of_getElem? (i := 51) (by decide +kernel))⟩
def f_X12_birds (m : ea_M) : Option (Int32 × ea_M) :=
  ea_bd (m 273 0) fun x1 =>
  some (x1, m)
set_option maxHeartbeats 300000 in
theorem ok_X12_birds (G : ea_G) (m : ea_M)  (rZ : Int32) (mZ : ea_M) (hZ : f_X12_birds m = some (rZ, mZ)) : ea_Met G yX12_birds F_X12_birds [.ref 272] m (0, rZ, mZ) := by
  refine ea_met (F := F_X12_birds) (by decide +kernel) rfl rfl (Nat.le_of_ble_eq_true rfl) (by simp only [List.mem_cons, List.not_mem_nil, or_false]; intro v hv; rcases hv with rfl <;> rfl) ((?_ : ea_E G F_X12_birds (0, rZ, mZ) 0 [some (.ref 272)] [] m 0 0 (f_X12_birds m) (fun t => t = (rZ, mZ))) (rZ, mZ) hZ rfl)
  have hR : ∀ t : Int32 × ea_M, t = (rZ, mZ) → ((0, rZ, mZ) : ea_O) = (0, t) := fun t h => by rw [h]
  unfold f_X12_birds
  refine ev_aload_n (ea_at dt_X12_birds 0 rfl) rfl ?_
  refine ev_getR (ea_at dt_X12_birds 1 rfl) fl_X12_13 sh_272 rfl ?_
  refine ev_iconst (ea_at dt_X12_birds 2 rfl) ic_0 ?_
  refine ev_ialoadC (j := 0) (ea_at dt_X12_birds 3 rfl) sh_273 (by decide) (by decide) (by decide) (by decide) ?_
  refine ev_i (fun x1 => ?_)
  exact ev_iret (ea_at dt_X12_birds 4 rfl) rfl ⟨by decide, by decide⟩ (fun h => hR _ h)
def F_X12_counsel : ea_F := (ea_rm 8 0 0, cX12_counsel, RX12, some .int, 1, [], 0, 0)
def D_X12_counsel : List (Nat × Instr × Nat) := [(0, .aload_n 0, 1), (1, .getfield 13, 3), (4, .iconst 1, 1), (5, .iaload, 1), (6, .ireturn, 1)]
theorem dt_X12_counsel : ∀ q ∈ D_X12_counsel, decode cX12_counsel q.1 = .ok q.2 := by decide +kernel
theorem mv_X12_counsel : ea_MV yX12_counsel (F_X12_counsel) 0 := ⟨⟨List.mem_append_right _ (List.mem_of_getElem? (i := 13) (by decide +kernel)), List.mem_append_right _ (List.mem_of_getElem? (i := 1601) (by decide +kernel)), ⟨by decide, by decide⟩, by decide +kernel⟩, List.mem_append_right _ (List.mem_of_getElem? (i := 1600) (by decide +kernel)), List.mem_append_left _ (List.mem_of_getElem? (i := 56) (by decide +kernel))⟩
def f_X12_counsel (m : ea_M) : Option (Int32 × ea_M) :=
  ea_bd (m 273 1) fun x1 =>
  some (x1, m)
set_option maxHeartbeats 300000 in
theorem ok_X12_counsel (G : ea_G) (m : ea_M)  (rZ : Int32) (mZ : ea_M) (hZ : f_X12_counsel m = some (rZ, mZ)) : ea_Met G yX12_counsel F_X12_counsel [.ref 272] m (0, rZ, mZ) := by
  refine ea_met (F := F_X12_counsel) (by decide +kernel) rfl rfl (Nat.le_of_ble_eq_true rfl) (by simp only [List.mem_cons, List.not_mem_nil, or_false]; intro v hv; rcases hv with rfl <;> rfl) ((?_ : ea_E G F_X12_counsel (0, rZ, mZ) 0 [some (.ref 272)] [] m 0 0 (f_X12_counsel m) (fun t => t = (rZ, mZ))) (rZ, mZ) hZ rfl)
  have hR : ∀ t : Int32 × ea_M, t = (rZ, mZ) → ((0, rZ, mZ) : ea_O) = (0, t) := fun t h => by rw [h]
  unfold f_X12_counsel
  refine ev_aload_n (ea_at dt_X12_counsel 0 rfl) rfl ?_
  refine ev_getR (ea_at dt_X12_counsel 1 rfl) fl_X12_13 sh_272 rfl ?_
  refine ev_iconst (ea_at dt_X12_counsel 2 rfl) ic_1 ?_
  refine ev_ialoadC (j := 1) (ea_at dt_X12_counsel 3 rfl) sh_273 (by decide) (by decide) (by decide) (by decide) ?_
  refine ev_i (fun x1 => ?_)
  exact ev_iret (ea_at dt_X12_counsel 4 rfl) rfl ⟨by decide, by decide⟩ (fun h => hR _ h)
def F_X12_cases : ea_F := (ea_rm 8 0 0, cX12_cases, RX12, some .int, 1, [], 0, 0)
def D_X12_cases : List (Nat × Instr × Nat) := [(0, .aload_n 0, 1), (1, .getfield 13, 3), (4, .iconst 2, 1), (5, .iaload, 1), (6, .ireturn, 1)]
theorem dt_X12_cases : ∀ q ∈ D_X12_cases, decode cX12_cases q.1 = .ok q.2 := by decide +kernel
theorem mv_X12_cases : ea_MV yX12_cases (F_X12_cases) 0 := ⟨⟨List.mem_append_right _ (List.mem_of_getElem? (i := 13) (by decide +kernel)), List.mem_append_right _ (List.mem_of_getElem? (i := 1610) (by decide +kernel)), ⟨by decide, by decide⟩, by decide +kernel⟩, List.mem_append_right _ (List.mem_of_getElem? (i := 1609) (by decide +kernel)), List.mem_append_left _ (List.mem_of_getElem? (i := 58) (by decide +kernel))⟩
def f_X12_cases (m : ea_M) : Option (Int32 × ea_M) :=
  ea_bd (m 273 2) fun x1 =>
  some (x1, m)
set_option maxHeartbeats 300000 in
theorem ok_X12_cases (G : ea_G) (m : ea_M)  (rZ : Int32) (mZ : ea_M) (hZ : f_X12_cases m = some (rZ, mZ)) : ea_Met G yX12_cases F_X12_cases [.ref 272] m (0, rZ, mZ) := by
  refine ea_met (F := F_X12_cases) (by decide +kernel) rfl rfl (Nat.le_of_ble_eq_true rfl) (by simp only [List.mem_cons, List.not_mem_nil, or_false]; intro v hv; rcases hv with rfl <;> rfl) ((?_ : ea_E G F_X12_cases (0, rZ, mZ) 0 [some (.ref 272)] [] m 0 0 (f_X12_cases m) (fun t => t = (rZ, mZ))) (rZ, mZ) hZ rfl)
  have hR : ∀ t : Int32 × ea_M, t = (rZ, mZ) → ((0, rZ, mZ) : ea_O) = (0, t) := fun t h => by rw [h]
  unfold f_X12_cases
  refine ev_aload_n (ea_at dt_X12_cases 0 rfl) rfl ?_
  refine ev_getR (ea_at dt_X12_cases 1 rfl) fl_X12_13 sh_272 rfl ?_
  refine ev_iconst (ea_at dt_X12_cases 2 rfl) ic_2 ?_
  refine ev_ialoadC (j := 2) (ea_at dt_X12_cases 3 rfl) sh_273 (by decide) (by decide) (by decide) (by decide) ?_
  refine ev_i (fun x1 => ?_)
  exact ev_iret (ea_at dt_X12_cases 4 rfl) rfl ⟨by decide, by decide⟩ (fun h => hR _ h)
def F_X12_ofBird : ea_F := (ea_rm 8 0 0, cX12_ofBird, RX12, some .int, 3, [], 0, 0)
def D_X12_ofBird : List (Nat × Instr × Nat) := [(0, .aload_n 0, 1), (1, .getfield 13, 3), (4, .bipush 26, 2), (6, .iconst 4, 1), (7, .iload_n 1, 1), (8, .imul, 1), (9, .iadd, 1), (10, .iload_n 2, 1), (11, .iadd, 1), (12, .iaload, 1), (13, .ireturn, 1)]
theorem dt_X12_ofBird : ∀ q ∈ D_X12_ofBird, decode cX12_ofBird q.1 = .ok q.2 := by decide +kernel
theorem mv_X12_ofBird : ea_MV yX12_ofBird (F_X12_ofBird) 2 := ⟨⟨List.mem_append_right _ (List.mem_of_getElem? (i := 13) (by decide +kernel)), List.mem_append_right _ (List.mem_of_getElem? (i := 1723) (by decide +kernel)), ⟨by decide, by decide⟩, by decide +kernel⟩, List.mem_append_right _ (List.mem_of_getElem? (i := 1722) (by decide +kernel)), List.mem_append_left _ (List.mem_of_getElem? (i := 77) (by decide +kernel))⟩
def f_X12_ofBird (p1 : Int32) (p2 : Int32) (m : ea_M) : Option (Int32 × ea_M) :=
  ea_bd (26 + (4 * p1)) fun x1 =>
  ea_g (x1 + p2) 2180 (ea_bd (m 273 (Int32.toNatClampNeg (x1 + p2))) fun x2 =>
  some (x2, m))
set_option maxHeartbeats 300000 in
theorem ok_X12_ofBird (G : ea_G) (p1 : Int32) (p2 : Int32) (m : ea_M)  (rZ : Int32) (mZ : ea_M) (hZ : f_X12_ofBird p1 p2 m = some (rZ, mZ)) : ea_Met G yX12_ofBird F_X12_ofBird [.ref 272, .int p1, .int p2] m (0, rZ, mZ) := by
  refine ea_met (F := F_X12_ofBird) (by decide +kernel) rfl rfl (Nat.le_of_ble_eq_true rfl) (by simp only [List.mem_cons, List.not_mem_nil, or_false]; intro v hv; rcases hv with rfl | rfl | rfl <;> rfl) ((?_ : ea_E G F_X12_ofBird (0, rZ, mZ) 0 [some (.ref 272), some (.int p1), some (.int p2)] [] m 0 0 (f_X12_ofBird p1 p2 m) (fun t => t = (rZ, mZ))) (rZ, mZ) hZ rfl)
  have hR : ∀ t : Int32 × ea_M, t = (rZ, mZ) → ((0, rZ, mZ) : ea_O) = (0, t) := fun t h => by rw [h]
  unfold f_X12_ofBird
  refine ev_aload_n (ea_at dt_X12_ofBird 0 rfl) rfl ?_
  refine ev_getR (ea_at dt_X12_ofBird 1 rfl) fl_X12_13 sh_272 rfl ?_
  refine ev_bipush (ea_at dt_X12_ofBird 2 rfl) bp_26 ?_
  refine ev_iconst (ea_at dt_X12_ofBird 3 rfl) ic_4 ?_
  refine ev_iload_n (ea_at dt_X12_ofBird 4 rfl) rfl ?_
  refine ev_imul (ea_at dt_X12_ofBird 5 rfl) ?_
  refine ev_iadd (ea_at dt_X12_ofBird 6 rfl) ?_
  refine ev_i (fun x1 => ?_)
  refine ev_iload_n (ea_at dt_X12_ofBird 7 rfl) rfl ?_
  refine ev_iadd (ea_at dt_X12_ofBird 8 rfl) ?_
  refine ev_iaload (ea_at dt_X12_ofBird 9 rfl) sh_273 (by decide) ?_
  refine ev_i (fun x2 => ?_)
  exact ev_iret (ea_at dt_X12_ofBird 10 rfl) rfl ⟨by decide, by decide⟩ (fun h => hR _ h)
def F_X12_stockAt : ea_F := (ea_rm 8 0 0, cX12_stockAt, RX12, some .int, 2, [], 0, 0)
def D_X12_stockAt : List (Nat × Instr × Nat) := [(0, .bipush 50, 2), (2, .bipush 6, 2), (4, .iload_n 0, 1), (5, .imul, 1), (6, .iadd, 1), (7, .iload_n 1, 1), (8, .iadd, 1), (9, .ireturn, 1)]
theorem dt_X12_stockAt : ∀ q ∈ D_X12_stockAt, decode cX12_stockAt q.1 = .ok q.2 := by decide +kernel
theorem mv_X12_stockAt : ea_MS yX12_stockAt (F_X12_stockAt) 2 := ⟨⟨List.mem_append_right _ (List.mem_of_getElem? (i := 13) (by decide +kernel)), List.mem_append_right _ (List.mem_of_getElem? (i := 1592) (by decide +kernel)), ⟨by decide, by decide⟩, by decide +kernel⟩, List.mem_append_right _ (List.mem_of_getElem? (i := 1591) (by decide +kernel))⟩
def f_X12_stockAt (p1 : Int32) (p2 : Int32) (m : ea_M) : Option (Int32 × ea_M) :=
  ea_bd (50 + (6 * p1)) fun x1 =>
  some (x1 + p2, m)
set_option maxHeartbeats 300000 in
theorem ok_X12_stockAt (G : ea_G) (p1 : Int32) (p2 : Int32) (m : ea_M)  (rZ : Int32) (mZ : ea_M) (hZ : f_X12_stockAt p1 p2 m = some (rZ, mZ)) : ea_Met G yX12_stockAt F_X12_stockAt [.int p1, .int p2] m (0, rZ, mZ) := by
  refine ea_met (F := F_X12_stockAt) (by decide +kernel) rfl rfl (Nat.le_of_ble_eq_true rfl) (by simp only [List.mem_cons, List.not_mem_nil, or_false]; intro v hv; rcases hv with rfl | rfl <;> rfl) ((?_ : ea_E G F_X12_stockAt (0, rZ, mZ) 0 [some (.int p1), some (.int p2)] [] m 0 0 (f_X12_stockAt p1 p2 m) (fun t => t = (rZ, mZ))) (rZ, mZ) hZ rfl)
  have hR : ∀ t : Int32 × ea_M, t = (rZ, mZ) → ((0, rZ, mZ) : ea_O) = (0, t) := fun t h => by rw [h]
  unfold f_X12_stockAt
  refine ev_bipush (ea_at dt_X12_stockAt 0 rfl) bp_50 ?_
  refine ev_bipush (ea_at dt_X12_stockAt 1 rfl) bp_6 ?_
  refine ev_iload_n (ea_at dt_X12_stockAt 2 rfl) rfl ?_
  refine ev_imul (ea_at dt_X12_stockAt 3 rfl) ?_
  refine ev_iadd (ea_at dt_X12_stockAt 4 rfl) ?_
  refine ev_i (fun x1 => ?_)
  refine ev_iload_n (ea_at dt_X12_stockAt 5 rfl) rfl ?_
  refine ev_iadd (ea_at dt_X12_stockAt 6 rfl) ?_
  exact ev_iret (ea_at dt_X12_stockAt 7 rfl) rfl ⟨by decide, by decide⟩ (fun h => hR _ h)
def F_X12_stockOf : ea_F := (ea_rm 9 0 0, cX12_stockOf, RX12, some .int, 3, [], 0, 0)
def D_X12_stockOf : List (Nat × Instr × Nat) := [(0, .aload_n 0, 1), (1, .getfield 13, 3), (4, .iload_n 1, 1), (5, .iload_n 2, 1), (6, .invokestatic 67, 3), (9, .iaload, 1), (10, .ireturn, 1)]
theorem dt_X12_stockOf : ∀ q ∈ D_X12_stockOf, decode cX12_stockOf q.1 = .ok q.2 := by decide +kernel
theorem mv_X12_stockOf : ea_MV yX12_stockOf (F_X12_stockOf) 2 := ⟨⟨List.mem_append_right _ (List.mem_of_getElem? (i := 13) (by decide +kernel)), List.mem_append_right _ (List.mem_of_getElem? (i := 1867) (by decide +kernel)), ⟨by decide, by decide⟩, by decide +kernel⟩, List.mem_append_right _ (List.mem_of_getElem? (i := 1866) (by decide +kernel)), List.mem_append_left _ (List.mem_of_getElem? (i := 99) (by decide +kernel))⟩
def f_X12_stockOf (p1 : Int32) (p2 : Int32) (m : ea_M) : Option (Int32 × ea_M) :=
  ea_cl (f_X12_stockAt p1 p2 m) fun r2 m1 =>
  ea_g r2 2180 (ea_bd (m1 273 (Int32.toNatClampNeg r2)) fun x3 =>
  some (x3, m1))
set_option maxHeartbeats 300000 in
theorem ok_X12_stockOf (G : ea_G) (p1 : Int32) (p2 : Int32) (m : ea_M)  (rZ : Int32) (mZ : ea_M) (hZ : f_X12_stockOf p1 p2 m = some (rZ, mZ)) : ea_Met G yX12_stockOf F_X12_stockOf [.ref 272, .int p1, .int p2] m (0, rZ, mZ) := by
  refine ea_met (F := F_X12_stockOf) (by decide +kernel) rfl rfl (Nat.le_of_ble_eq_true rfl) (by simp only [List.mem_cons, List.not_mem_nil, or_false]; intro v hv; rcases hv with rfl | rfl | rfl <;> rfl) ((?_ : ea_E G F_X12_stockOf (0, rZ, mZ) 0 [some (.ref 272), some (.int p1), some (.int p2)] [] m 0 0 (f_X12_stockOf p1 p2 m) (fun t => t = (rZ, mZ))) (rZ, mZ) hZ rfl)
  have hR : ∀ t : Int32 × ea_M, t = (rZ, mZ) → ((0, rZ, mZ) : ea_O) = (0, t) := fun t h => by rw [h]
  unfold f_X12_stockOf
  refine ev_aload_n (ea_at dt_X12_stockOf 0 rfl) rfl ?_
  refine ev_getR (ea_at dt_X12_stockOf 1 rfl) fl_X12_13 sh_272 rfl ?_
  refine ev_iload_n (ea_at dt_X12_stockOf 2 rfl) rfl ?_
  refine ev_iload_n (ea_at dt_X12_stockOf 3 rfl) rfl ?_
  refine ev_clI (F1 := F_X12_stockAt) (fun rY mY hY => ea_runS (As := [.int p1, .int p2]) (ea_at dt_X12_stockOf 4 rfl) ml_X12_67 mv_X12_stockAt (ok_X12_stockAt G p1 p2 m  rY mY hY) rfl rfl (Nat.le_of_ble_eq_true rfl) rfl) rfl (fun r2 m1 => ?_)
  refine ev_iaload (ea_at dt_X12_stockOf 5 rfl) sh_273 (by decide) ?_
  refine ev_i (fun x3 => ?_)
  exact ev_iret (ea_at dt_X12_stockOf 6 rfl) rfl ⟨by decide, by decide⟩ (fun h => hR _ h)
def F_X12_caseAt : ea_F := (ea_rm 8 0 0, cX12_caseAt, RX12, some .int, 2, [], 0, 0)
def D_X12_caseAt : List (Nat × Instr × Nat) := [(0, .bipush 74, 2), (2, .iconst 4, 1), (3, .iload_n 0, 1), (4, .imul, 1), (5, .iadd, 1), (6, .iload_n 1, 1), (7, .iadd, 1), (8, .ireturn, 1)]
theorem dt_X12_caseAt : ∀ q ∈ D_X12_caseAt, decode cX12_caseAt q.1 = .ok q.2 := by decide +kernel
theorem mv_X12_caseAt : ea_MS yX12_caseAt (F_X12_caseAt) 2 := ⟨⟨List.mem_append_right _ (List.mem_of_getElem? (i := 13) (by decide +kernel)), List.mem_append_right _ (List.mem_of_getElem? (i := 1614) (by decide +kernel)), ⟨by decide, by decide⟩, by decide +kernel⟩, List.mem_append_right _ (List.mem_of_getElem? (i := 1613) (by decide +kernel))⟩
def f_X12_caseAt (p1 : Int32) (p2 : Int32) (m : ea_M) : Option (Int32 × ea_M) :=
  ea_bd (74 + (4 * p1)) fun x1 =>
  some (x1 + p2, m)
set_option maxHeartbeats 300000 in
theorem ok_X12_caseAt (G : ea_G) (p1 : Int32) (p2 : Int32) (m : ea_M)  (rZ : Int32) (mZ : ea_M) (hZ : f_X12_caseAt p1 p2 m = some (rZ, mZ)) : ea_Met G yX12_caseAt F_X12_caseAt [.int p1, .int p2] m (0, rZ, mZ) := by
  refine ea_met (F := F_X12_caseAt) (by decide +kernel) rfl rfl (Nat.le_of_ble_eq_true rfl) (by simp only [List.mem_cons, List.not_mem_nil, or_false]; intro v hv; rcases hv with rfl | rfl <;> rfl) ((?_ : ea_E G F_X12_caseAt (0, rZ, mZ) 0 [some (.int p1), some (.int p2)] [] m 0 0 (f_X12_caseAt p1 p2 m) (fun t => t = (rZ, mZ))) (rZ, mZ) hZ rfl)
  have hR : ∀ t : Int32 × ea_M, t = (rZ, mZ) → ((0, rZ, mZ) : ea_O) = (0, t) := fun t h => by rw [h]
  unfold f_X12_caseAt
  refine ev_bipush (ea_at dt_X12_caseAt 0 rfl) bp_74 ?_
  refine ev_iconst (ea_at dt_X12_caseAt 1 rfl) ic_4 ?_
  refine ev_iload_n (ea_at dt_X12_caseAt 2 rfl) rfl ?_
  refine ev_imul (ea_at dt_X12_caseAt 3 rfl) ?_
  refine ev_iadd (ea_at dt_X12_caseAt 4 rfl) ?_
  refine ev_i (fun x1 => ?_)
  refine ev_iload_n (ea_at dt_X12_caseAt 5 rfl) rfl ?_
  refine ev_iadd (ea_at dt_X12_caseAt 6 rfl) ?_
  exact ev_iret (ea_at dt_X12_caseAt 7 rfl) rfl ⟨by decide, by decide⟩ (fun h => hR _ h)
def F_X12_ofCase : ea_F := (ea_rm 9 0 0, cX12_ofCase, RX12, some .int, 3, [], 0, 0)
def D_X12_ofCase : List (Nat × Instr × Nat) := [(0, .aload_n 0, 1), (1, .getfield 13, 3), (4, .iload_n 1, 1), (5, .iload_n 2, 1), (6, .invokestatic 71, 3), (9, .iaload, 1), (10, .ireturn, 1)]
theorem dt_X12_ofCase : ∀ q ∈ D_X12_ofCase, decode cX12_ofCase q.1 = .ok q.2 := by decide +kernel
theorem mv_X12_ofCase : ea_MV yX12_ofCase (F_X12_ofCase) 2 := ⟨⟨List.mem_append_right _ (List.mem_of_getElem? (i := 13) (by decide +kernel)), List.mem_append_right _ (List.mem_of_getElem? (i := 1879) (by decide +kernel)), ⟨by decide, by decide⟩, by decide +kernel⟩, List.mem_append_right _ (List.mem_of_getElem? (i := 1878) (by decide +kernel)), List.mem_append_left _ (List.mem_of_getElem? (i := 101) (by decide +kernel))⟩
def f_X12_ofCase (p1 : Int32) (p2 : Int32) (m : ea_M) : Option (Int32 × ea_M) :=
  ea_cl (f_X12_caseAt p1 p2 m) fun r2 m1 =>
  ea_g r2 2180 (ea_bd (m1 273 (Int32.toNatClampNeg r2)) fun x3 =>
  some (x3, m1))
set_option maxHeartbeats 300000 in
theorem ok_X12_ofCase (G : ea_G) (p1 : Int32) (p2 : Int32) (m : ea_M)  (rZ : Int32) (mZ : ea_M) (hZ : f_X12_ofCase p1 p2 m = some (rZ, mZ)) : ea_Met G yX12_ofCase F_X12_ofCase [.ref 272, .int p1, .int p2] m (0, rZ, mZ) := by
  refine ea_met (F := F_X12_ofCase) (by decide +kernel) rfl rfl (Nat.le_of_ble_eq_true rfl) (by simp only [List.mem_cons, List.not_mem_nil, or_false]; intro v hv; rcases hv with rfl | rfl | rfl <;> rfl) ((?_ : ea_E G F_X12_ofCase (0, rZ, mZ) 0 [some (.ref 272), some (.int p1), some (.int p2)] [] m 0 0 (f_X12_ofCase p1 p2 m) (fun t => t = (rZ, mZ))) (rZ, mZ) hZ rfl)
  have hR : ∀ t : Int32 × ea_M, t = (rZ, mZ) → ((0, rZ, mZ) : ea_O) = (0, t) := fun t h => by rw [h]
  unfold f_X12_ofCase
  refine ev_aload_n (ea_at dt_X12_ofCase 0 rfl) rfl ?_
  refine ev_getR (ea_at dt_X12_ofCase 1 rfl) fl_X12_13 sh_272 rfl ?_
  refine ev_iload_n (ea_at dt_X12_ofCase 2 rfl) rfl ?_
  refine ev_iload_n (ea_at dt_X12_ofCase 3 rfl) rfl ?_
  refine ev_clI (F1 := F_X12_caseAt) (fun rY mY hY => ea_runS (As := [.int p1, .int p2]) (ea_at dt_X12_ofCase 4 rfl) ml_X12_71 mv_X12_caseAt (ok_X12_caseAt G p1 p2 m  rY mY hY) rfl rfl (Nat.le_of_ble_eq_true rfl) rfl) rfl (fun r2 m1 => ?_)
  refine ev_iaload (ea_at dt_X12_ofCase 5 rfl) sh_273 (by decide) ?_
  refine ev_i (fun x3 => ?_)
  exact ev_iret (ea_at dt_X12_ofCase 6 rfl) rfl ⟨by decide, by decide⟩ (fun h => hR _ h)
def F_X12_noBird : ea_F := (ea_rm 9 0 0, cX12_noBird, RX12, some .boolean, 2, [], 0, 0)
def D_X12_noBird : List (Nat × Instr × Nat) := [(0, .iload_n 1, 1), (1, .iconst 0, 1), (2, .aload_n 0, 1), (3, .invokevirtual 74, 3), (6, .iconst 1, 1), (7, .isub, 1), (8, .invokestatic 78, 3), (11, .ifCond .ne 7, 3), (14, .iconst 1, 1), (15, .goto 4, 3), (18, .iconst 0, 1), (19, .ireturn, 1)]
theorem dt_X12_noBird : ∀ q ∈ D_X12_noBird, decode cX12_noBird q.1 = .ok q.2 := by decide +kernel
theorem mv_X12_noBird : ea_MV yX12_noBird (F_X12_noBird) 1 := ⟨⟨List.mem_append_right _ (List.mem_of_getElem? (i := 13) (by decide +kernel)), List.mem_append_right _ (List.mem_of_getElem? (i := 1705) (by decide +kernel)), ⟨by decide, by decide⟩, by decide +kernel⟩, List.mem_append_right _ (List.mem_of_getElem? (i := 1704) (by decide +kernel)), List.mem_append_left _ (List.mem_of_getElem? (i := 74) (by decide +kernel))⟩
def f_X12_noBird (p1 : Int32) (m : ea_M) : Option (Int32 × ea_M) :=
  ea_cl (f_X12_birds m) fun r2 m1 =>
  ea_cl (f_X12_in p1 0 (r2 - 1) m1) fun r4 m3 =>
  if r4 = 0 then
  some (1, m3)
  else
  some (0, m3)
set_option maxHeartbeats 300000 in
theorem ok_X12_noBird (G : ea_G) (p1 : Int32) (m : ea_M)  (rZ : Int32) (mZ : ea_M) (hZ : f_X12_noBird p1 m = some (rZ, mZ)) : ea_Met G yX12_noBird F_X12_noBird [.ref 272, .int p1] m (0, rZ, mZ) := by
  refine ea_met (F := F_X12_noBird) (by decide +kernel) rfl rfl (Nat.le_of_ble_eq_true rfl) (by simp only [List.mem_cons, List.not_mem_nil, or_false]; intro v hv; rcases hv with rfl | rfl <;> rfl) ((?_ : ea_E G F_X12_noBird (0, rZ, mZ) 0 [some (.ref 272), some (.int p1)] [] m 0 0 (f_X12_noBird p1 m) (fun t => t = (rZ, mZ))) (rZ, mZ) hZ rfl)
  have hR : ∀ t : Int32 × ea_M, t = (rZ, mZ) → ((0, rZ, mZ) : ea_O) = (0, t) := fun t h => by rw [h]
  unfold f_X12_noBird
  refine ev_iload_n (ea_at dt_X12_noBird 0 rfl) rfl ?_
  refine ev_iconst (ea_at dt_X12_noBird 1 rfl) ic_0 ?_
  refine ev_aload_n (ea_at dt_X12_noBird 2 rfl) rfl ?_
  refine ev_clI (F1 := F_X12_birds) (fun rY mY hY => ea_runV (As := []) (ea_at dt_X12_noBird 3 rfl) ml_X12_74 mv_X12_birds (ok_X12_birds G m  rY mY hY) sh_272 rfl rfl rfl (Nat.le_of_ble_eq_true rfl) rfl) rfl (fun r2 m1 => ?_)
  refine ev_iconst (ea_at dt_X12_noBird 4 rfl) ic_1 ?_
  refine ev_isub (ea_at dt_X12_noBird 5 rfl) ?_
  refine ev_clI (F1 := F_X12_in) (fun rY mY hY => ea_runS (As := [.int p1, .int 0, .int (r2 - 1)]) (ea_at dt_X12_noBird 6 rfl) ml_X12_78 mv_X12_in (ok_X12_in G p1 0 (r2 - 1) m1  rY mY hY) rfl rfl (Nat.le_of_ble_eq_true rfl) rfl) rfl (fun r4 m3 => ?_)
  refine ev_if_ne (tgt := 18) (ea_at dt_X12_noBird 7 rfl) rfl (fun _ => ?_) (fun _ => ?_)
  · refine ev_iconst (ea_at dt_X12_noBird 8 rfl) ic_1 ?_
    refine ev_goto (tgt := 19) (ea_at dt_X12_noBird 9 rfl) rfl ?_
    exact ev_zret (by decide) (ea_at dt_X12_noBird 11 rfl) rfl ⟨by decide, by decide⟩ (fun h => hR _ h)
  · refine ev_iconst (ea_at dt_X12_noBird 10 rfl) ic_0 ?_
    exact ev_zret (by decide) (ea_at dt_X12_noBird 11 rfl) rfl ⟨by decide, by decide⟩ (fun h => hR _ h)
def F_X12_noCounsel : ea_F := (ea_rm 9 0 0, cX12_noCounsel, RX12, some .boolean, 2, [], 0, 0)
def D_X12_noCounsel : List (Nat × Instr × Nat) := [(0, .iload_n 1, 1), (1, .iconst 0, 1), (2, .aload_n 0, 1), (3, .invokevirtual 82, 3), (6, .iconst 1, 1), (7, .isub, 1), (8, .invokestatic 78, 3), (11, .ifCond .ne 7, 3), (14, .iconst 1, 1), (15, .goto 4, 3), (18, .iconst 0, 1), (19, .ireturn, 1)]
theorem dt_X12_noCounsel : ∀ q ∈ D_X12_noCounsel, decode cX12_noCounsel q.1 = .ok q.2 := by decide +kernel
theorem mv_X12_noCounsel : ea_MV yX12_noCounsel (F_X12_noCounsel) 1 := ⟨⟨List.mem_append_right _ (List.mem_of_getElem? (i := 13) (by decide +kernel)), List.mem_append_right _ (List.mem_of_getElem? (i := 1863) (by decide +kernel)), ⟨by decide, by decide⟩, by decide +kernel⟩, List.mem_append_right _ (List.mem_of_getElem? (i := 1862) (by decide +kernel)), List.mem_append_left _ (List.mem_of_getElem? (i := 98) (by decide +kernel))⟩
def f_X12_noCounsel (p1 : Int32) (m : ea_M) : Option (Int32 × ea_M) :=
  ea_cl (f_X12_counsel m) fun r2 m1 =>
  ea_cl (f_X12_in p1 0 (r2 - 1) m1) fun r4 m3 =>
  if r4 = 0 then
  some (1, m3)
  else
  some (0, m3)
set_option maxHeartbeats 300000 in
theorem ok_X12_noCounsel (G : ea_G) (p1 : Int32) (m : ea_M)  (rZ : Int32) (mZ : ea_M) (hZ : f_X12_noCounsel p1 m = some (rZ, mZ)) : ea_Met G yX12_noCounsel F_X12_noCounsel [.ref 272, .int p1] m (0, rZ, mZ) := by
  refine ea_met (F := F_X12_noCounsel) (by decide +kernel) rfl rfl (Nat.le_of_ble_eq_true rfl) (by simp only [List.mem_cons, List.not_mem_nil, or_false]; intro v hv; rcases hv with rfl | rfl <;> rfl) ((?_ : ea_E G F_X12_noCounsel (0, rZ, mZ) 0 [some (.ref 272), some (.int p1)] [] m 0 0 (f_X12_noCounsel p1 m) (fun t => t = (rZ, mZ))) (rZ, mZ) hZ rfl)
  have hR : ∀ t : Int32 × ea_M, t = (rZ, mZ) → ((0, rZ, mZ) : ea_O) = (0, t) := fun t h => by rw [h]
  unfold f_X12_noCounsel
  refine ev_iload_n (ea_at dt_X12_noCounsel 0 rfl) rfl ?_
  refine ev_iconst (ea_at dt_X12_noCounsel 1 rfl) ic_0 ?_
  refine ev_aload_n (ea_at dt_X12_noCounsel 2 rfl) rfl ?_
  refine ev_clI (F1 := F_X12_counsel) (fun rY mY hY => ea_runV (As := []) (ea_at dt_X12_noCounsel 3 rfl) ml_X12_82 mv_X12_counsel (ok_X12_counsel G m  rY mY hY) sh_272 rfl rfl rfl (Nat.le_of_ble_eq_true rfl) rfl) rfl (fun r2 m1 => ?_)
  refine ev_iconst (ea_at dt_X12_noCounsel 4 rfl) ic_1 ?_
  refine ev_isub (ea_at dt_X12_noCounsel 5 rfl) ?_
  refine ev_clI (F1 := F_X12_in) (fun rY mY hY => ea_runS (As := [.int p1, .int 0, .int (r2 - 1)]) (ea_at dt_X12_noCounsel 6 rfl) ml_X12_78 mv_X12_in (ok_X12_in G p1 0 (r2 - 1) m1  rY mY hY) rfl rfl (Nat.le_of_ble_eq_true rfl) rfl) rfl (fun r4 m3 => ?_)
  refine ev_if_ne (tgt := 18) (ea_at dt_X12_noCounsel 7 rfl) rfl (fun _ => ?_) (fun _ => ?_)
  · refine ev_iconst (ea_at dt_X12_noCounsel 8 rfl) ic_1 ?_
    refine ev_goto (tgt := 19) (ea_at dt_X12_noCounsel 9 rfl) rfl ?_
    exact ev_zret (by decide) (ea_at dt_X12_noCounsel 11 rfl) rfl ⟨by decide, by decide⟩ (fun h => hR _ h)
  · refine ev_iconst (ea_at dt_X12_noCounsel 10 rfl) ic_0 ?_
    exact ev_zret (by decide) (ea_at dt_X12_noCounsel 11 rfl) rfl ⟨by decide, by decide⟩ (fun h => hR _ h)
def F_X12_noCase : ea_F := (ea_rm 9 0 0, cX12_noCase, RX12, some .boolean, 2, [], 0, 0)
def D_X12_noCase : List (Nat × Instr × Nat) := [(0, .iload_n 1, 1), (1, .iconst 0, 1), (2, .aload_n 0, 1), (3, .invokevirtual 85, 3), (6, .iconst 1, 1), (7, .isub, 1), (8, .invokestatic 78, 3), (11, .ifCond .ne 7, 3), (14, .iconst 1, 1), (15, .goto 4, 3), (18, .iconst 0, 1), (19, .ireturn, 1)]
theorem dt_X12_noCase : ∀ q ∈ D_X12_noCase, decode cX12_noCase q.1 = .ok q.2 := by decide +kernel
theorem mv_X12_noCase : ea_MV yX12_noCase (F_X12_noCase) 1 := ⟨⟨List.mem_append_right _ (List.mem_of_getElem? (i := 13) (by decide +kernel)), List.mem_append_right _ (List.mem_of_getElem? (i := 1875) (by decide +kernel)), ⟨by decide, by decide⟩, by decide +kernel⟩, List.mem_append_right _ (List.mem_of_getElem? (i := 1874) (by decide +kernel)), List.mem_append_left _ (List.mem_of_getElem? (i := 100) (by decide +kernel))⟩
def f_X12_noCase (p1 : Int32) (m : ea_M) : Option (Int32 × ea_M) :=
  ea_cl (f_X12_cases m) fun r2 m1 =>
  ea_cl (f_X12_in p1 0 (r2 - 1) m1) fun r4 m3 =>
  if r4 = 0 then
  some (1, m3)
  else
  some (0, m3)
set_option maxHeartbeats 300000 in
theorem ok_X12_noCase (G : ea_G) (p1 : Int32) (m : ea_M)  (rZ : Int32) (mZ : ea_M) (hZ : f_X12_noCase p1 m = some (rZ, mZ)) : ea_Met G yX12_noCase F_X12_noCase [.ref 272, .int p1] m (0, rZ, mZ) := by
  refine ea_met (F := F_X12_noCase) (by decide +kernel) rfl rfl (Nat.le_of_ble_eq_true rfl) (by simp only [List.mem_cons, List.not_mem_nil, or_false]; intro v hv; rcases hv with rfl | rfl <;> rfl) ((?_ : ea_E G F_X12_noCase (0, rZ, mZ) 0 [some (.ref 272), some (.int p1)] [] m 0 0 (f_X12_noCase p1 m) (fun t => t = (rZ, mZ))) (rZ, mZ) hZ rfl)
  have hR : ∀ t : Int32 × ea_M, t = (rZ, mZ) → ((0, rZ, mZ) : ea_O) = (0, t) := fun t h => by rw [h]
  unfold f_X12_noCase
  refine ev_iload_n (ea_at dt_X12_noCase 0 rfl) rfl ?_
  refine ev_iconst (ea_at dt_X12_noCase 1 rfl) ic_0 ?_
  refine ev_aload_n (ea_at dt_X12_noCase 2 rfl) rfl ?_
  refine ev_clI (F1 := F_X12_cases) (fun rY mY hY => ea_runV (As := []) (ea_at dt_X12_noCase 3 rfl) ml_X12_85 mv_X12_cases (ok_X12_cases G m  rY mY hY) sh_272 rfl rfl rfl (Nat.le_of_ble_eq_true rfl) rfl) rfl (fun r2 m1 => ?_)
  refine ev_iconst (ea_at dt_X12_noCase 4 rfl) ic_1 ?_
  refine ev_isub (ea_at dt_X12_noCase 5 rfl) ?_
  refine ev_clI (F1 := F_X12_in) (fun rY mY hY => ea_runS (As := [.int p1, .int 0, .int (r2 - 1)]) (ea_at dt_X12_noCase 6 rfl) ml_X12_78 mv_X12_in (ok_X12_in G p1 0 (r2 - 1) m1  rY mY hY) rfl rfl (Nat.le_of_ble_eq_true rfl) rfl) rfl (fun r4 m3 => ?_)
  refine ev_if_ne (tgt := 18) (ea_at dt_X12_noCase 7 rfl) rfl (fun _ => ?_) (fun _ => ?_)
  · refine ev_iconst (ea_at dt_X12_noCase 8 rfl) ic_1 ?_
    refine ev_goto (tgt := 19) (ea_at dt_X12_noCase 9 rfl) rfl ?_
    exact ev_zret (by decide) (ea_at dt_X12_noCase 11 rfl) rfl ⟨by decide, by decide⟩ (fun h => hR _ h)
  · refine ev_iconst (ea_at dt_X12_noCase 10 rfl) ic_0 ?_
    exact ev_zret (by decide) (ea_at dt_X12_noCase 11 rfl) rfl ⟨by decide, by decide⟩ (fun h => hR _ h)
def F_X12_noLevel : ea_F := (ea_rm 9 0 0, cX12_noLevel, RX12, some .boolean, 1, [], 0, 0)
def D_X12_noLevel : List (Nat × Instr × Nat) := [(0, .iload_n 0, 1), (1, .iconst 0, 1), (2, .bipush 12, 2), (4, .invokestatic 78, 3), (7, .ifCond .ne 7, 3), (10, .iconst 1, 1), (11, .goto 4, 3), (14, .iconst 0, 1), (15, .ireturn, 1)]
theorem dt_X12_noLevel : ∀ q ∈ D_X12_noLevel, decode cX12_noLevel q.1 = .ok q.2 := by decide +kernel
theorem mv_X12_noLevel : ea_MS yX12_noLevel (F_X12_noLevel) 1 := ⟨⟨List.mem_append_right _ (List.mem_of_getElem? (i := 13) (by decide +kernel)), List.mem_append_right _ (List.mem_of_getElem? (i := 1708) (by decide +kernel)), ⟨by decide, by decide⟩, by decide +kernel⟩, List.mem_append_right _ (List.mem_of_getElem? (i := 1707) (by decide +kernel))⟩
def f_X12_noLevel (p1 : Int32) (m : ea_M) : Option (Int32 × ea_M) :=
  ea_cl (f_X12_in p1 0 12 m) fun r2 m1 =>
  if r2 = 0 then
  some (1, m1)
  else
  some (0, m1)
set_option maxHeartbeats 300000 in
theorem ok_X12_noLevel (G : ea_G) (p1 : Int32) (m : ea_M)  (rZ : Int32) (mZ : ea_M) (hZ : f_X12_noLevel p1 m = some (rZ, mZ)) : ea_Met G yX12_noLevel F_X12_noLevel [.int p1] m (0, rZ, mZ) := by
  refine ea_met (F := F_X12_noLevel) (by decide +kernel) rfl rfl (Nat.le_of_ble_eq_true rfl) (by simp only [List.mem_cons, List.not_mem_nil, or_false]; intro v hv; rcases hv with rfl <;> rfl) ((?_ : ea_E G F_X12_noLevel (0, rZ, mZ) 0 [some (.int p1)] [] m 0 0 (f_X12_noLevel p1 m) (fun t => t = (rZ, mZ))) (rZ, mZ) hZ rfl)
  have hR : ∀ t : Int32 × ea_M, t = (rZ, mZ) → ((0, rZ, mZ) : ea_O) = (0, t) := fun t h => by rw [h]
  unfold f_X12_noLevel
  refine ev_iload_n (ea_at dt_X12_noLevel 0 rfl) rfl ?_
  refine ev_iconst (ea_at dt_X12_noLevel 1 rfl) ic_0 ?_
  refine ev_bipush (ea_at dt_X12_noLevel 2 rfl) bp_12 ?_
  refine ev_clI (F1 := F_X12_in) (fun rY mY hY => ea_runS (As := [.int p1, .int 0, .int 12]) (ea_at dt_X12_noLevel 3 rfl) ml_X12_78 mv_X12_in (ok_X12_in G p1 0 12 m  rY mY hY) rfl rfl (Nat.le_of_ble_eq_true rfl) rfl) rfl (fun r2 m1 => ?_)
  refine ev_if_ne (tgt := 14) (ea_at dt_X12_noLevel 4 rfl) rfl (fun _ => ?_) (fun _ => ?_)
  · refine ev_iconst (ea_at dt_X12_noLevel 5 rfl) ic_1 ?_
    refine ev_goto (tgt := 15) (ea_at dt_X12_noLevel 6 rfl) rfl ?_
    exact ev_zret (by decide) (ea_at dt_X12_noLevel 8 rfl) rfl ⟨by decide, by decide⟩ (fun h => hR _ h)
  · refine ev_iconst (ea_at dt_X12_noLevel 7 rfl) ic_0 ?_
    exact ev_zret (by decide) (ea_at dt_X12_noLevel 8 rfl) rfl ⟨by decide, by decide⟩ (fun h => hR _ h)
def F_X12_noColumn : ea_F := (ea_rm 9 0 0, cX12_noColumn, RX12, some .boolean, 1, [], 0, 0)
def D_X12_noColumn : List (Nat × Instr × Nat) := [(0, .iload_n 0, 1), (1, .iconst 0, 1), (2, .bipush 15, 2), (4, .invokestatic 78, 3), (7, .ifCond .ne 7, 3), (10, .iconst 1, 1), (11, .goto 4, 3), (14, .iconst 0, 1), (15, .ireturn, 1)]
theorem dt_X12_noColumn : ∀ q ∈ D_X12_noColumn, decode cX12_noColumn q.1 = .ok q.2 := by decide +kernel
theorem mv_X12_noColumn : ea_MS yX12_noColumn (F_X12_noColumn) 1 := ⟨⟨List.mem_append_right _ (List.mem_of_getElem? (i := 13) (by decide +kernel)), List.mem_append_right _ (List.mem_of_getElem? (i := 1711) (by decide +kernel)), ⟨by decide, by decide⟩, by decide +kernel⟩, List.mem_append_right _ (List.mem_of_getElem? (i := 1710) (by decide +kernel))⟩
def f_X12_noColumn (p1 : Int32) (m : ea_M) : Option (Int32 × ea_M) :=
  ea_cl (f_X12_in p1 0 15 m) fun r2 m1 =>
  if r2 = 0 then
  some (1, m1)
  else
  some (0, m1)
set_option maxHeartbeats 300000 in
theorem ok_X12_noColumn (G : ea_G) (p1 : Int32) (m : ea_M)  (rZ : Int32) (mZ : ea_M) (hZ : f_X12_noColumn p1 m = some (rZ, mZ)) : ea_Met G yX12_noColumn F_X12_noColumn [.int p1] m (0, rZ, mZ) := by
  refine ea_met (F := F_X12_noColumn) (by decide +kernel) rfl rfl (Nat.le_of_ble_eq_true rfl) (by simp only [List.mem_cons, List.not_mem_nil, or_false]; intro v hv; rcases hv with rfl <;> rfl) ((?_ : ea_E G F_X12_noColumn (0, rZ, mZ) 0 [some (.int p1)] [] m 0 0 (f_X12_noColumn p1 m) (fun t => t = (rZ, mZ))) (rZ, mZ) hZ rfl)
  have hR : ∀ t : Int32 × ea_M, t = (rZ, mZ) → ((0, rZ, mZ) : ea_O) = (0, t) := fun t h => by rw [h]
  unfold f_X12_noColumn
  refine ev_iload_n (ea_at dt_X12_noColumn 0 rfl) rfl ?_
  refine ev_iconst (ea_at dt_X12_noColumn 1 rfl) ic_0 ?_
  refine ev_bipush (ea_at dt_X12_noColumn 2 rfl) bp_15 ?_
  refine ev_clI (F1 := F_X12_in) (fun rY mY hY => ea_runS (As := [.int p1, .int 0, .int 15]) (ea_at dt_X12_noColumn 3 rfl) ml_X12_78 mv_X12_in (ok_X12_in G p1 0 15 m  rY mY hY) rfl rfl (Nat.le_of_ble_eq_true rfl) rfl) rfl (fun r2 m1 => ?_)
  refine ev_if_ne (tgt := 14) (ea_at dt_X12_noColumn 4 rfl) rfl (fun _ => ?_) (fun _ => ?_)
  · refine ev_iconst (ea_at dt_X12_noColumn 5 rfl) ic_1 ?_
    refine ev_goto (tgt := 15) (ea_at dt_X12_noColumn 6 rfl) rfl ?_
    exact ev_zret (by decide) (ea_at dt_X12_noColumn 8 rfl) rfl ⟨by decide, by decide⟩ (fun h => hR _ h)
  · refine ev_iconst (ea_at dt_X12_noColumn 7 rfl) ic_0 ?_
    exact ev_zret (by decide) (ea_at dt_X12_noColumn 8 rfl) rfl ⟨by decide, by decide⟩ (fun h => hR _ h)
def F_X12_drawn : ea_F := (ea_rm 8 0 0, cX12_drawn, RX12, some .int, 2, [], 0, 0)
def D_X12_drawn : List (Nat × Instr × Nat) := [(0, .aload_n 0, 1), (1, .getfield 13, 3), (4, .bipush 12, 2), (6, .ldc 88, 2), (8, .aload_n 0, 1), (9, .getfield 13, 3), (12, .bipush 12, 2), (14, .iaload, 1), (15, .imul, 1), (16, .sipush 12345, 3), (19, .iadd, 1), (20, .iastore, 1), (21, .aload_n 0, 1), (22, .getfield 13, 3), (25, .bipush 12, 2), (27, .iaload, 1), (28, .bipush 16, 2), (30, .ishr, 1), (31, .sipush 32767, 3), (34, .iand, 1), (35, .iload_n 1, 1), (36, .irem, 1), (37, .ireturn, 1)]
theorem dt_X12_drawn : ∀ q ∈ D_X12_drawn, decode cX12_drawn q.1 = .ok q.2 := by decide +kernel
theorem mv_X12_drawn : ea_MV yX12_drawn (F_X12_drawn) 1 := ⟨⟨List.mem_append_right _ (List.mem_of_getElem? (i := 13) (by decide +kernel)), List.mem_append_right _ (List.mem_of_getElem? (i := 1932) (by decide +kernel)), ⟨by decide, by decide⟩, by decide +kernel⟩, List.mem_append_right _ (List.mem_of_getElem? (i := 1931) (by decide +kernel)), List.mem_append_left _ (List.mem_of_getElem? (i := 108) (by decide +kernel))⟩
def f_X12_drawn (p1 : Int32) (m : ea_M) : Option (Int32 × ea_M) :=
  ea_bd (m 273 12) fun x1 =>
  ea_bd ((1103515245 * x1) + 12345) fun x2 =>
  ea_bd (ea_st m 273 12 x2) fun m3 =>
  ea_bd (m3 273 12) fun x4 =>
  ea_bd ((x4 >>> (16 &&& 31)) &&& 32767) fun x5 =>
  ea_gn p1 (ea_bd (x5 - x5 / p1 * p1) fun x6 =>
  some (x6, m3))
set_option maxHeartbeats 300000 in
theorem ok_X12_drawn (G : ea_G) (p1 : Int32) (m : ea_M)  (rZ : Int32) (mZ : ea_M) (hZ : f_X12_drawn p1 m = some (rZ, mZ)) : ea_Met G yX12_drawn F_X12_drawn [.ref 272, .int p1] m (0, rZ, mZ) := by
  refine ea_met (F := F_X12_drawn) (by decide +kernel) rfl rfl (Nat.le_of_ble_eq_true rfl) (by simp only [List.mem_cons, List.not_mem_nil, or_false]; intro v hv; rcases hv with rfl | rfl <;> rfl) ((?_ : ea_E G F_X12_drawn (0, rZ, mZ) 0 [some (.ref 272), some (.int p1)] [] m 0 0 (f_X12_drawn p1 m) (fun t => t = (rZ, mZ))) (rZ, mZ) hZ rfl)
  have hR : ∀ t : Int32 × ea_M, t = (rZ, mZ) → ((0, rZ, mZ) : ea_O) = (0, t) := fun t h => by rw [h]
  unfold f_X12_drawn
  refine ev_aload_n (ea_at dt_X12_drawn 0 rfl) rfl ?_
  refine ev_getR (ea_at dt_X12_drawn 1 rfl) fl_X12_13 sh_272 rfl ?_
  refine ev_bipush (ea_at dt_X12_drawn 2 rfl) bp_12 ?_
  refine ev_ldc (ea_at dt_X12_drawn 3 rfl) ki_X12_88 ?_
  refine ev_aload_n (ea_at dt_X12_drawn 4 rfl) rfl ?_
  refine ev_getR (ea_at dt_X12_drawn 5 rfl) fl_X12_13 sh_272 rfl ?_
  refine ev_bipush (ea_at dt_X12_drawn 6 rfl) bp_12 ?_
  refine ev_ialoadC (j := 12) (ea_at dt_X12_drawn 7 rfl) sh_273 (by decide) (by decide) (by decide) (by decide) ?_
  refine ev_i (fun x1 => ?_)
  refine ev_imul (ea_at dt_X12_drawn 8 rfl) ?_
  refine ev_sipush (ea_at dt_X12_drawn 9 rfl) sp_12345 ?_
  refine ev_iadd (ea_at dt_X12_drawn 10 rfl) ?_
  refine ev_i (fun x2 => ?_)
  refine ev_iastoreC (j := 12) (ea_at dt_X12_drawn 11 rfl) sh_273 (by decide) (by decide) (by decide) (by decide) ?_
  refine ev_m (fun m3 => ?_)
  refine ev_aload_n (ea_at dt_X12_drawn 12 rfl) rfl ?_
  refine ev_getR (ea_at dt_X12_drawn 13 rfl) fl_X12_13 sh_272 rfl ?_
  refine ev_bipush (ea_at dt_X12_drawn 14 rfl) bp_12 ?_
  refine ev_ialoadC (j := 12) (ea_at dt_X12_drawn 15 rfl) sh_273 (by decide) (by decide) (by decide) (by decide) ?_
  refine ev_i (fun x4 => ?_)
  refine ev_bipush (ea_at dt_X12_drawn 16 rfl) bp_16 ?_
  refine ev_ishr (ea_at dt_X12_drawn 17 rfl) ?_
  refine ev_sipush (ea_at dt_X12_drawn 18 rfl) sp_32767 ?_
  refine ev_iand (ea_at dt_X12_drawn 19 rfl) ?_
  refine ev_i (fun x5 => ?_)
  refine ev_iload_n (ea_at dt_X12_drawn 20 rfl) rfl ?_
  refine ev_iremG (ea_at dt_X12_drawn 21 rfl) ?_
  refine ev_i (fun x6 => ?_)
  exact ev_iret (ea_at dt_X12_drawn 22 rfl) rfl ⟨by decide, by decide⟩ (fun h => hR _ h)
def F_X12_feed : ea_F := (ea_rm 8 0 0, cX12_feed, RX12, some .int, 7, [], 0, 0)
def D_X12_feed : List (Nat × Instr × Nat) := [(0, .aload_n 0, 1), (1, .iconst 0, 1), (2, .putfield 3, 3), (5, .aload_n 0, 1), (6, .getfield 89, 3), (9, .bipush 20, 2), (11, .iadd, 1), (12, .sipush 400, 3), (15, .if_icmp .le 5, 3), (18, .iconst (-1), 1), (19, .ireturn, 1), (20, .aload_n 0, 1), (21, .getfield 36, 3), (24, .iconst 0, 1), (25, .iload_n 1, 1), (26, .iastore, 1), (27, .aload_n 0, 1), (28, .getfield 36, 3), (31, .iconst 1, 1), (32, .iload_n 2, 1), (33, .iastore, 1), (34, .aload_n 0, 1), (35, .getfield 36, 3), (38, .iconst 2, 1), (39, .iload_n 3, 1), (40, .iastore, 1), (41, .aload_n 0, 1), (42, .getfield 36, 3), (45, .iconst 3, 1), (46, .iload 4, 2), (48, .iastore, 1), (49, .aload_n 0, 1), (50, .getfield 36, 3), (53, .iconst 4, 1), (54, .iload 5, 2), (56, .iastore, 1), (57, .iconst 0, 1), (58, .istore 6, 2), (60, .iload 6, 2), (62, .bipush 20, 2), (64, .if_icmp .ge 42, 3), (67, .aload_n 0, 1), (68, .getfield 29, 3), (71, .aload_n 0, 1), (72, .getfield 89, 3), (75, .iload 6, 2), (77, .iadd, 1), (78, .aload_n 0, 1), (79, .getfield 36, 3), (82, .iload 6, 2), (84, .iconst 4, 1), (85, .idiv, 1), (86, .iaload, 1), (87, .bipush 24, 2), (89, .bipush 8, 2), (91, .iload 6, 2), (93, .iconst 4, 1), (94, .irem, 1), (95, .imul, 1), (96, .isub, 1), (97, .ishr, 1), (98, .i2b, 1), (99, .bastore, 1), (100, .iinc 6 1, 3), (103, .goto (-43), 3), (106, .aload_n 0, 1), (107, .dup, 1), (108, .getfield 89, 3), (111, .bipush 20, 2), (113, .iadd, 1), (114, .putfield 89, 3), (117, .aload_n 0, 1), (118, .getfield 89, 3), (121, .ireturn, 1)]
theorem dt_X12_feed : ∀ q ∈ D_X12_feed, decode cX12_feed q.1 = .ok q.2 := by decide +kernel
theorem mv_X12_feed : ea_MV yX12_feed (F_X12_feed) 5 := ⟨⟨List.mem_append_right _ (List.mem_of_getElem? (i := 13) (by decide +kernel)), List.mem_append_right _ (List.mem_of_getElem? (i := 1512) (by decide +kernel)), ⟨by decide, by decide⟩, by decide +kernel⟩, List.mem_append_right _ (List.mem_of_getElem? (i := 1510) (by decide +kernel)), List.mem_append_right _ (List.mem_of_getElem? (i := 1511) (by decide +kernel))⟩
def f_X12_feed_s60  (s60 : Int32 × ea_M) : Option ((Int32 × ea_M) ⊕ (ea_M)) :=
  if 20 ≤ s60.1 then
  some (.inr s60.2)
  else
  ea_bd (s60.2 272 9) fun x8 =>
  ea_g (s60.1 / 4) 5 (ea_bd (s60.2 279 (Int32.toNatClampNeg (s60.1 / 4))) fun x9 =>
  ea_bd (s60.1 - s60.1 / 4 * 4) fun x10 =>
  ea_bd (24 - (8 * x10)) fun x11 =>
  ea_g (x8 + s60.1) 400 (ea_bd (ea_st s60.2 278 (Int32.toNatClampNeg (x8 + s60.1)) (vp_nar .byte ((Int32.toInt8 (x9 >>> (x11 &&& 31))).toInt32))) fun m12 =>
  some (.inl (s60.1 + 1, m12))))
def f_X12_feed (p1 : Int32) (p2 : Int32) (p3 : Int32) (p4 : Int32) (p5 : Int32) (m : ea_M) : Option (Int32 × ea_M) :=
  ea_bd (ea_st m 272 0 0) fun m1 =>
  ea_bd (m1 272 9) fun x2 =>
  if (x2 + 20) ≤ 400 then
  ea_bd (ea_st m1 279 0 p1) fun m3 =>
  ea_bd (ea_st m3 279 1 p2) fun m4 =>
  ea_bd (ea_st m4 279 2 p3) fun m5 =>
  ea_bd (ea_st m5 279 3 p4) fun m6 =>
  ea_bd (ea_st m6 279 4 p5) fun m7 =>
  (ea_loop f_X12_feed_s60 ea_fuel (0, m7)).bind (fun x60s =>
  ea_bd (x60s 272 9) fun x13 =>
  ea_bd (ea_st x60s 272 9 (x13 + 20)) fun m14 =>
  ea_bd (m14 272 9) fun x15 =>
  some (x15, m14))
  else
  some ((-1), m1)
set_option maxHeartbeats 300000 in
theorem lp_X12_feed_60 (G : ea_G) {res : ea_O}    {Ψ : ea_M → Prop} (hX : ∀ x60s : ea_M, Ψ x60s → ea_Ev G F_X12_feed res 106 [some (.ref 272), none, none, none, none, none, none] [] x60s 0 0) : ∀ (f : Nat) (s60 : Int32 × ea_M), ea_E G F_X12_feed res 60 [some (.ref 272), none, none, none, none, none, some (.int s60.1)] [] s60.2 0 0 (ea_loop f_X12_feed_s60 f s60) Ψ := by
  refine ev_loop (G := G) (F := F_X12_feed) (res := res) (pc := 60) (st := []) (k := 0) (n := 0) (step := f_X12_feed_s60) (Ψ := Ψ) (fun (s60 : Int32 × ea_M) => [some (.ref 272), none, none, none, none, none, some (.int s60.1)]) (fun (s60 : Int32 × ea_M) => s60.2) (fun s60 => ?_)
  have hC : ∀ s60 : Int32 × ea_M, (Sum.elim (fun s60 : Int32 × ea_M => ea_Ev G F_X12_feed res 60 [some (.ref 272), none, none, none, none, none, some (.int s60.1)] [] s60.2 0 0) Ψ) (.inl s60) → ea_Ev G F_X12_feed res 60 [some (.ref 272), none, none, none, none, none, some (.int s60.1)] [] s60.2 0 0 := fun _ h => h
  have hX : ∀ x60s : ea_M, (Sum.elim (fun s60 : Int32 × ea_M => ea_Ev G F_X12_feed res 60 [some (.ref 272), none, none, none, none, none, some (.int s60.1)] [] s60.2 0 0) Ψ) (.inr x60s) → ea_Ev G F_X12_feed res 106 [some (.ref 272), none, none, none, none, none, none] [] x60s 0 0 := hX
  unfold f_X12_feed_s60
  refine ev_iload (ea_at dt_X12_feed 38 rfl) rfl ?_
  refine ev_bipush (ea_at dt_X12_feed 39 rfl) bp_20 ?_
  refine ev_icmp_ge (tgt := 106) (ea_at dt_X12_feed 40 rfl) rfl (fun _ => ?_) (fun _ => ?_)
  · exact ev_leaf (fun h => ea_drop (l' := [some (.ref 272), none, none, none, none, none, none]) ⟨Or.inr rfl, Or.inl rfl, Or.inl rfl, Or.inl rfl, Or.inl rfl, Or.inl rfl, Or.inl rfl, trivial⟩ (hX s60.2 h))
  · refine ev_aload_n (ea_at dt_X12_feed 41 rfl) rfl ?_
    refine ev_getR (ea_at dt_X12_feed 42 rfl) fl_X12_29 sh_272 rfl ?_
    refine ev_aload_n (ea_at dt_X12_feed 43 rfl) rfl ?_
    refine ev_getI (ea_at dt_X12_feed 44 rfl) fl_X12_89 sh_272 rfl ?_
    refine ev_i (fun x8 => ?_)
    refine ev_iload (ea_at dt_X12_feed 45 rfl) rfl ?_
    refine ev_iadd (ea_at dt_X12_feed 46 rfl) ?_
    refine ev_aload_n (ea_at dt_X12_feed 47 rfl) rfl ?_
    refine ev_getR (ea_at dt_X12_feed 48 rfl) fl_X12_36 sh_272 rfl ?_
    refine ev_iload (ea_at dt_X12_feed 49 rfl) rfl ?_
    refine ev_iconst (ea_at dt_X12_feed 50 rfl) ic_4 ?_
    refine ev_idiv (ea_at dt_X12_feed 51 rfl) (by decide) ?_
    refine ev_iaload (ea_at dt_X12_feed 52 rfl) sh_279 (by decide) ?_
    refine ev_i (fun x9 => ?_)
    refine ev_bipush (ea_at dt_X12_feed 53 rfl) bp_24 ?_
    refine ev_bipush (ea_at dt_X12_feed 54 rfl) bp_8 ?_
    refine ev_iload (ea_at dt_X12_feed 55 rfl) rfl ?_
    refine ev_iconst (ea_at dt_X12_feed 56 rfl) ic_4 ?_
    refine ev_irem (ea_at dt_X12_feed 57 rfl) (by decide) ?_
    refine ev_i (fun x10 => ?_)
    refine ev_imul (ea_at dt_X12_feed 58 rfl) ?_
    refine ev_isub (ea_at dt_X12_feed 59 rfl) ?_
    refine ev_i (fun x11 => ?_)
    refine ev_ishr (ea_at dt_X12_feed 60 rfl) ?_
    refine ev_i2b (ea_at dt_X12_feed 61 rfl) ?_
    refine ev_bastore (ea_at dt_X12_feed 62 rfl) sh_278 ?_
    refine ev_m (fun m12 => ?_)
    refine ev_iinc (ls' := [some (.ref 272), none, none, none, none, none, some (.int (s60.1 + 1))]) (ea_at dt_X12_feed 63 rfl) rfl (congrArg (fun z => _ + z) ic_1) (ea_lt rfl) rfl ?_
    refine ev_goto (tgt := 60) (ea_at dt_X12_feed 64 rfl) rfl ?_
    exact ev_leaf (fun h => ea_drop (l' := [some (.ref 272), none, none, none, none, none, some (.int (s60.1 + 1))]) ⟨Or.inr rfl, Or.inl rfl, Or.inl rfl, Or.inl rfl, Or.inl rfl, Or.inl rfl, Or.inr rfl, trivial⟩ (hC (s60.1 + 1, m12) h))
set_option maxHeartbeats 300000 in
theorem ok_X12_feed (G : ea_G) (p1 : Int32) (p2 : Int32) (p3 : Int32) (p4 : Int32) (p5 : Int32) (m : ea_M)  (rZ : Int32) (mZ : ea_M) (hZ : f_X12_feed p1 p2 p3 p4 p5 m = some (rZ, mZ)) : ea_Met G yX12_feed F_X12_feed [.ref 272, .int p1, .int p2, .int p3, .int p4, .int p5] m (0, rZ, mZ) := by
  refine ea_met (F := F_X12_feed) (by decide +kernel) rfl rfl (Nat.le_of_ble_eq_true rfl) (by simp only [List.mem_cons, List.not_mem_nil, or_false]; intro v hv; rcases hv with rfl | rfl | rfl | rfl | rfl | rfl <;> rfl) ((?_ : ea_E G F_X12_feed (0, rZ, mZ) 0 [some (.ref 272), some (.int p1), some (.int p2), some (.int p3), some (.int p4), some (.int p5), none] [] m 0 0 (f_X12_feed p1 p2 p3 p4 p5 m) (fun t => t = (rZ, mZ))) (rZ, mZ) hZ rfl)
  have hR : ∀ t : Int32 × ea_M, t = (rZ, mZ) → ((0, rZ, mZ) : ea_O) = (0, t) := fun t h => by rw [h]
  unfold f_X12_feed
  refine ev_aload_n (ea_at dt_X12_feed 0 rfl) rfl ?_
  refine ev_iconst (ea_at dt_X12_feed 1 rfl) ic_0 ?_
  refine ev_putI (ea_at dt_X12_feed 2 rfl) fl_X12_3 fp_12_0 sh_272 rfl ?_
  refine ev_m (fun m1 => ?_)
  refine ev_aload_n (ea_at dt_X12_feed 3 rfl) rfl ?_
  refine ev_getI (ea_at dt_X12_feed 4 rfl) fl_X12_89 sh_272 rfl ?_
  refine ev_i (fun x2 => ?_)
  refine ev_bipush (ea_at dt_X12_feed 5 rfl) bp_20 ?_
  refine ev_iadd (ea_at dt_X12_feed 6 rfl) ?_
  refine ev_sipush (ea_at dt_X12_feed 7 rfl) sp_400 ?_
  refine ev_icmp_le (tgt := 20) (ea_at dt_X12_feed 8 rfl) rfl (fun _ => ?_) (fun _ => ?_)
  · refine ev_aload_n (ea_at dt_X12_feed 11 rfl) rfl ?_
    refine ev_getR (ea_at dt_X12_feed 12 rfl) fl_X12_36 sh_272 rfl ?_
    refine ev_iconst (ea_at dt_X12_feed 13 rfl) ic_0 ?_
    refine ev_iload_n (ea_at dt_X12_feed 14 rfl) rfl ?_
    refine ev_iastoreC (j := 0) (ea_at dt_X12_feed 15 rfl) sh_279 (by decide) (by decide) (by decide) (by decide) ?_
    refine ev_m (fun m3 => ?_)
    refine ev_aload_n (ea_at dt_X12_feed 16 rfl) rfl ?_
    refine ev_getR (ea_at dt_X12_feed 17 rfl) fl_X12_36 sh_272 rfl ?_
    refine ev_iconst (ea_at dt_X12_feed 18 rfl) ic_1 ?_
    refine ev_iload_n (ea_at dt_X12_feed 19 rfl) rfl ?_
    refine ev_iastoreC (j := 1) (ea_at dt_X12_feed 20 rfl) sh_279 (by decide) (by decide) (by decide) (by decide) ?_
    refine ev_m (fun m4 => ?_)
    refine ev_aload_n (ea_at dt_X12_feed 21 rfl) rfl ?_
    refine ev_getR (ea_at dt_X12_feed 22 rfl) fl_X12_36 sh_272 rfl ?_
    refine ev_iconst (ea_at dt_X12_feed 23 rfl) ic_2 ?_
    refine ev_iload_n (ea_at dt_X12_feed 24 rfl) rfl ?_
    refine ev_iastoreC (j := 2) (ea_at dt_X12_feed 25 rfl) sh_279 (by decide) (by decide) (by decide) (by decide) ?_
    refine ev_m (fun m5 => ?_)
    refine ev_aload_n (ea_at dt_X12_feed 26 rfl) rfl ?_
    refine ev_getR (ea_at dt_X12_feed 27 rfl) fl_X12_36 sh_272 rfl ?_
    refine ev_iconst (ea_at dt_X12_feed 28 rfl) ic_3 ?_
    refine ev_iload (ea_at dt_X12_feed 29 rfl) rfl ?_
    refine ev_iastoreC (j := 3) (ea_at dt_X12_feed 30 rfl) sh_279 (by decide) (by decide) (by decide) (by decide) ?_
    refine ev_m (fun m6 => ?_)
    refine ev_aload_n (ea_at dt_X12_feed 31 rfl) rfl ?_
    refine ev_getR (ea_at dt_X12_feed 32 rfl) fl_X12_36 sh_272 rfl ?_
    refine ev_iconst (ea_at dt_X12_feed 33 rfl) ic_4 ?_
    refine ev_iload (ea_at dt_X12_feed 34 rfl) rfl ?_
    refine ev_iastoreC (j := 4) (ea_at dt_X12_feed 35 rfl) sh_279 (by decide) (by decide) (by decide) (by decide) ?_
    refine ev_m (fun m7 => ?_)
    refine ev_iconst (ea_at dt_X12_feed 36 rfl) ic_0 ?_
    refine ev_istore (ls' := [some (.ref 272), some (.int p1), some (.int p2), some (.int p3), some (.int p4), some (.int p5), some (.int 0)]) (ea_at dt_X12_feed 37 rfl) (ea_lt rfl) rfl ?_
    refine ev_drop (l' := [some (.ref 272), none, none, none, none, none, some (.int 0)]) ⟨Or.inr rfl, Or.inl rfl, Or.inl rfl, Or.inl rfl, Or.inl rfl, Or.inl rfl, Or.inr rfl, trivial⟩ ?_
    refine ev_bind (lp_X12_feed_60 G   (fun x60s h => ?_) ea_fuel (0, m7))
    obtain ⟨t1, e1, q1⟩ := h
    refine (?_ : ea_E G F_X12_feed (0, rZ, mZ) 106 [some (.ref 272), none, none, none, none, none, none] [] x60s 0 0 _ (fun t => t = (rZ, mZ))) t1 e1 q1
    refine ev_aload_n (ea_at dt_X12_feed 65 rfl) rfl ?_
    refine ev_dup (ea_at dt_X12_feed 66 rfl) rfl ?_
    refine ev_getI (ea_at dt_X12_feed 67 rfl) fl_X12_89 sh_272 rfl ?_
    refine ev_i (fun x13 => ?_)
    refine ev_bipush (ea_at dt_X12_feed 68 rfl) bp_20 ?_
    refine ev_iadd (ea_at dt_X12_feed 69 rfl) ?_
    refine ev_putI (ea_at dt_X12_feed 70 rfl) fl_X12_89 fp_12_9 sh_272 rfl ?_
    refine ev_m (fun m14 => ?_)
    refine ev_aload_n (ea_at dt_X12_feed 71 rfl) rfl ?_
    refine ev_getI (ea_at dt_X12_feed 72 rfl) fl_X12_89 sh_272 rfl ?_
    refine ev_i (fun x15 => ?_)
    exact ev_iret (ea_at dt_X12_feed 73 rfl) rfl ⟨by decide, by decide⟩ (fun h => hR _ h)
  · refine ev_iconst (ea_at dt_X12_feed 9 rfl) ic_m1 ?_
    exact ev_iret (ea_at dt_X12_feed 10 rfl) rfl ⟨by decide, by decide⟩ (fun h => hR _ h)
def F_X12_end : ea_F := (ea_rm 8 0 0, cX12_end, RX12, some .boolean, 2, [], 0, 0)
def D_X12_end : List (Nat × Instr × Nat) := [(0, .aload_n 0, 1), (1, .iconst 0, 1), (2, .putfield 3, 3), (5, .iload_n 1, 1), (6, .ifCond .lt 11, 3), (9, .iload_n 1, 1), (10, .aload_n 0, 1), (11, .getfield 89, 3), (14, .if_icmp .le 5, 3), (17, .iconst 0, 1), (18, .ireturn, 1), (19, .aload_n 0, 1), (20, .iload_n 1, 1), (21, .putfield 89, 3), (24, .iconst 1, 1), (25, .ireturn, 1)]
theorem dt_X12_end : ∀ q ∈ D_X12_end, decode cX12_end q.1 = .ok q.2 := by decide +kernel
theorem mv_X12_end : ea_MV yX12_end (F_X12_end) 1 := ⟨⟨List.mem_append_right _ (List.mem_of_getElem? (i := 13) (by decide +kernel)), List.mem_append_right _ (List.mem_of_getElem? (i := 1516) (by decide +kernel)), ⟨by decide, by decide⟩, by decide +kernel⟩, List.mem_append_right _ (List.mem_of_getElem? (i := 1514) (by decide +kernel)), List.mem_append_right _ (List.mem_of_getElem? (i := 1515) (by decide +kernel))⟩
def f_X12_end (p1 : Int32) (m : ea_M) : Option (Int32 × ea_M) :=
  ea_bd (ea_st m 272 0 0) fun m1 =>
  if p1 < 0 then
  some (0, m1)
  else
  ea_bd (m1 272 9) fun x2 =>
  if p1 ≤ x2 then
  ea_bd (ea_st m1 272 9 p1) fun m3 =>
  some (1, m3)
  else
  some (0, m1)
set_option maxHeartbeats 300000 in
theorem ok_X12_end (G : ea_G) (p1 : Int32) (m : ea_M)  (rZ : Int32) (mZ : ea_M) (hZ : f_X12_end p1 m = some (rZ, mZ)) : ea_Met G yX12_end F_X12_end [.ref 272, .int p1] m (0, rZ, mZ) := by
  refine ea_met (F := F_X12_end) (by decide +kernel) rfl rfl (Nat.le_of_ble_eq_true rfl) (by simp only [List.mem_cons, List.not_mem_nil, or_false]; intro v hv; rcases hv with rfl | rfl <;> rfl) ((?_ : ea_E G F_X12_end (0, rZ, mZ) 0 [some (.ref 272), some (.int p1)] [] m 0 0 (f_X12_end p1 m) (fun t => t = (rZ, mZ))) (rZ, mZ) hZ rfl)
  have hR : ∀ t : Int32 × ea_M, t = (rZ, mZ) → ((0, rZ, mZ) : ea_O) = (0, t) := fun t h => by rw [h]
  unfold f_X12_end
  refine ev_aload_n (ea_at dt_X12_end 0 rfl) rfl ?_
  refine ev_iconst (ea_at dt_X12_end 1 rfl) ic_0 ?_
  refine ev_putI (ea_at dt_X12_end 2 rfl) fl_X12_3 fp_12_0 sh_272 rfl ?_
  refine ev_m (fun m1 => ?_)
  refine ev_iload_n (ea_at dt_X12_end 3 rfl) rfl ?_
  refine ev_if_lt (tgt := 17) (ea_at dt_X12_end 4 rfl) rfl (fun _ => ?_) (fun _ => ?_)
  · refine ev_iconst (ea_at dt_X12_end 9 rfl) ic_0 ?_
    exact ev_zret (by decide) (ea_at dt_X12_end 10 rfl) rfl ⟨by decide, by decide⟩ (fun h => hR _ h)
  · refine ev_iload_n (ea_at dt_X12_end 5 rfl) rfl ?_
    refine ev_aload_n (ea_at dt_X12_end 6 rfl) rfl ?_
    refine ev_getI (ea_at dt_X12_end 7 rfl) fl_X12_89 sh_272 rfl ?_
    refine ev_i (fun x2 => ?_)
    refine ev_icmp_le (tgt := 19) (ea_at dt_X12_end 8 rfl) rfl (fun _ => ?_) (fun _ => ?_)
    · refine ev_aload_n (ea_at dt_X12_end 11 rfl) rfl ?_
      refine ev_iload_n (ea_at dt_X12_end 12 rfl) rfl ?_
      refine ev_putI (ea_at dt_X12_end 13 rfl) fl_X12_89 fp_12_9 sh_272 rfl ?_
      refine ev_m (fun m3 => ?_)
      refine ev_iconst (ea_at dt_X12_end 14 rfl) ic_1 ?_
      exact ev_zret (by decide) (ea_at dt_X12_end 15 rfl) rfl ⟨by decide, by decide⟩ (fun h => hR _ h)
    · refine ev_iconst (ea_at dt_X12_end 9 rfl) ic_0 ?_
      exact ev_zret (by decide) (ea_at dt_X12_end 10 rfl) rfl ⟨by decide, by decide⟩ (fun h => hR _ h)
