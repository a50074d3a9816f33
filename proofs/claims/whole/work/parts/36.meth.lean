def F_X12_lasts : ea_F := (ea_rm 10 0 0, cX12_lasts, RX12, some .int, 6, [], 0, 0)
def D_X12_lasts : List (Nat × Instr × Nat) := [(0, .aload_n 0, 1), (1, .iconst 0, 1), (2, .putfield 3, 3), (5, .aload_n 0, 1), (6, .aload_n 0, 1), (7, .iload_n 1, 1), (8, .invokevirtual 393, 3), (11, .ifCond .ne 11, 3), (14, .aload_n 0, 1), (15, .iload_n 2, 1), (16, .invokevirtual 303, 3), (19, .ifCond .eq 7, 3), (22, .iconst 1, 1), (23, .goto 4, 3), (26, .iconst 0, 1), (27, .iconst 1, 1), (28, .invokevirtual 265, 3), (31, .ifCond .ne 26, 3), (34, .aload_n 0, 1), (35, .iload_n 3, 1), (36, .iconst 1, 1), (37, .bipush 99, 2), (39, .invokestatic 78, 3), (42, .ifCond .ne 7, 3), (45, .iconst 1, 1), (46, .goto 4, 3), (49, .iconst 0, 1), (50, .iconst 2, 1), (51, .invokevirtual 265, 3), (54, .ifCond .eq 5, 3), (57, .iconst 0, 1), (58, .ireturn, 1), (59, .iload_n 3, 1), (60, .aload_n 0, 1), (61, .iload_n 1, 1), (62, .iload_n 2, 1), (63, .invokevirtual 390, 3), (66, .isub, 1), (67, .istore 4, 2), (69, .aload_n 0, 1), (70, .iload_n 2, 1), (71, .iconst 3, 1), (72, .invokevirtual 277, 3), (75, .istore 5, 2), (77, .iload 4, 2), (79, .ifCond .gt 7, 3), (82, .iconst 0, 1), (83, .goto 22, 3), (86, .iload 5, 2), (88, .ifCond .ne 7, 3), (91, .iconst (-1), 1), (92, .goto 13, 3), (95, .iload 4, 2), (97, .iload 5, 2), (99, .iadd, 1), (100, .iconst 1, 1), (101, .isub, 1), (102, .iload 5, 2), (104, .idiv, 1), (105, .ireturn, 1)]
theorem dt_X12_lasts : ∀ q ∈ D_X12_lasts, decode cX12_lasts q.1 = .ok q.2 := by decide +kernel
theorem mv_X12_lasts : ea_MV yX12_lasts (F_X12_lasts) 3 := ⟨⟨List.mem_append_right _ (List.mem_of_getElem? (i := 13) (by decide +kernel)), List.mem_append_right _ (List.mem_of_getElem? (i := 1993) (by decide +kernel)), ⟨by decide, by decide⟩, by decide +kernel⟩, List.mem_append_right _ (List.mem_of_getElem? (i := 1991) (by decide +kernel)), List.mem_append_right _ (List.mem_of_getElem? (i := 1992) (by decide +kernel))⟩
def f_X12_lasts_j50 (p1 : Int32) (p2 : Int32) (p3 : Int32) (x12 : Int32) (m13 : ea_M) : Option (Int32 × ea_M) :=
  ea_cl (f_X12_throwsIf x12 2 m13) fun r15 m14 =>
  if r15 = 0 then
  ea_cl (f_X12_stockOf p1 p2 m14) fun r17 m16 =>
  ea_bd (p3 - r17) fun x18 =>
  ea_cl (f_X12_ofBird p2 3 m16) fun r20 m19 =>
  if 0 < x18 then
  if r20 = 0 then
  some ((-1), m19)
  else
  ea_bd ((x18 + r20) - 1) fun x21 =>
  ea_gn r20 (ea_bd (x21 / r20) fun x22 =>
  some (x22, m19))
  else
  some (0, m19)
  else
  some (0, m14)
def f_X12_lasts_j27 (p1 : Int32) (p2 : Int32) (p3 : Int32) (x6 : Int32) (m7 : ea_M) : Option (Int32 × ea_M) :=
  ea_cl (f_X12_throwsIf x6 1 m7) fun r9 m8 =>
  if r9 = 0 then
  ea_cl (f_X12_in p3 1 99 m8) fun r11 m10 =>
  if r11 = 0 then
  f_X12_lasts_j50 p1 p2 p3 1 m10
  else
  f_X12_lasts_j50 p1 p2 p3 0 m10
  else
  some (0, m8)
def f_X12_lasts_j22 (p1 : Int32) (p2 : Int32) (p3 : Int32) (m23 : ea_M) : Option (Int32 × ea_M) :=
  f_X12_lasts_j27 p1 p2 p3 1 m23
def f_X12_lasts (p1 : Int32) (p2 : Int32) (p3 : Int32) (m : ea_M) : Option (Int32 × ea_M) :=
  ea_bd (ea_st m 272 0 0) fun m1 =>
  ea_cl (f_X12_noCounsel p1 m1) fun r3 m2 =>
  if r3 = 0 then
  ea_cl (f_X12_noBird p2 m2) fun r5 m4 =>
  if r5 = 0 then
  f_X12_lasts_j27 p1 p2 p3 0 m4
  else
  f_X12_lasts_j22 p1 p2 p3 m4
  else
  f_X12_lasts_j22 p1 p2 p3 m2
set_option maxHeartbeats 300000 in
theorem jn_X12_lasts_50 (G : ea_G) {res : ea_O}  (p1 : Int32) (p2 : Int32) (p3 : Int32) (x12 : Int32) (m13 : ea_M)  {Φ : (Int32 × ea_M) → Prop} (hR : ∀ t : Int32 × ea_M, Φ t → res = (0, t)) : ea_E G F_X12_lasts res 50 [some (.ref 272), some (.int p1), some (.int p2), some (.int p3), none, none] [.int x12, .ref 272] m13 0 0 (f_X12_lasts_j50 p1 p2 p3 x12 m13) Φ := by
  unfold f_X12_lasts_j50
  refine ev_iconst (ea_at dt_X12_lasts 27 rfl) ic_2 ?_
  refine ev_clI (F1 := F_X12_throwsIf) (fun rY mY hY => ea_runV (As := [.int x12, .int 2]) (ea_at dt_X12_lasts 28 rfl) ml_X12_265 mv_X12_throwsIf (ok_X12_throwsIf G x12 2 m13  rY mY hY) sh_272 rfl rfl rfl (Nat.le_of_ble_eq_true rfl) rfl) rfl (fun r15 m14 => ?_)
  refine ev_if_eq (tgt := 59) (ea_at dt_X12_lasts 29 rfl) rfl (fun _ => ?_) (fun _ => ?_)
  · refine ev_iload_n (ea_at dt_X12_lasts 32 rfl) rfl ?_
    refine ev_aload_n (ea_at dt_X12_lasts 33 rfl) rfl ?_
    refine ev_iload_n (ea_at dt_X12_lasts 34 rfl) rfl ?_
    refine ev_iload_n (ea_at dt_X12_lasts 35 rfl) rfl ?_
    refine ev_clI (F1 := F_X12_stockOf) (fun rY mY hY => ea_runV (As := [.int p1, .int p2]) (ea_at dt_X12_lasts 36 rfl) ml_X12_390 mv_X12_stockOf (ok_X12_stockOf G p1 p2 m14  rY mY hY) sh_272 rfl rfl rfl (Nat.le_of_ble_eq_true rfl) rfl) rfl (fun r17 m16 => ?_)
    refine ev_isub (ea_at dt_X12_lasts 37 rfl) ?_
    refine ev_i (fun x18 => ?_)
    refine ev_istore (ls' := [some (.ref 272), some (.int p1), some (.int p2), some (.int p3), some (.int x18), none]) (ea_at dt_X12_lasts 38 rfl) (ea_lt rfl) rfl ?_
    refine ev_aload_n (ea_at dt_X12_lasts 39 rfl) rfl ?_
    refine ev_iload_n (ea_at dt_X12_lasts 40 rfl) rfl ?_
    refine ev_iconst (ea_at dt_X12_lasts 41 rfl) ic_3 ?_
    refine ev_clI (F1 := F_X12_ofBird) (fun rY mY hY => ea_runV (As := [.int p2, .int 3]) (ea_at dt_X12_lasts 42 rfl) ml_X12_277 mv_X12_ofBird (ok_X12_ofBird G p2 3 m16  rY mY hY) sh_272 rfl rfl rfl (Nat.le_of_ble_eq_true rfl) rfl) rfl (fun r20 m19 => ?_)
    refine ev_istore (ls' := [some (.ref 272), some (.int p1), some (.int p2), some (.int p3), some (.int x18), some (.int r20)]) (ea_at dt_X12_lasts 43 rfl) (ea_lt rfl) rfl ?_
    refine ev_iload (ea_at dt_X12_lasts 44 rfl) rfl ?_
    refine ev_if_gt (tgt := 86) (ea_at dt_X12_lasts 45 rfl) rfl (fun _ => ?_) (fun _ => ?_)
    · refine ev_iload (ea_at dt_X12_lasts 48 rfl) rfl ?_
      refine ev_if_ne (tgt := 95) (ea_at dt_X12_lasts 49 rfl) rfl (fun _ => ?_) (fun _ => ?_)
      · refine ev_iconst (ea_at dt_X12_lasts 50 rfl) ic_m1 ?_
        refine ev_goto (tgt := 105) (ea_at dt_X12_lasts 51 rfl) rfl ?_
        exact ev_iret (ea_at dt_X12_lasts 59 rfl) rfl ⟨by decide, by decide⟩ (fun h => hR _ h)
      · refine ev_iload (ea_at dt_X12_lasts 52 rfl) rfl ?_
        refine ev_iload (ea_at dt_X12_lasts 53 rfl) rfl ?_
        refine ev_iadd (ea_at dt_X12_lasts 54 rfl) ?_
        refine ev_iconst (ea_at dt_X12_lasts 55 rfl) ic_1 ?_
        refine ev_isub (ea_at dt_X12_lasts 56 rfl) ?_
        refine ev_i (fun x21 => ?_)
        refine ev_iload (ea_at dt_X12_lasts 57 rfl) rfl ?_
        refine ev_idivG (ea_at dt_X12_lasts 58 rfl) ?_
        refine ev_i (fun x22 => ?_)
        exact ev_iret (ea_at dt_X12_lasts 59 rfl) rfl ⟨by decide, by decide⟩ (fun h => hR _ h)
    · refine ev_iconst (ea_at dt_X12_lasts 46 rfl) ic_0 ?_
      refine ev_goto (tgt := 105) (ea_at dt_X12_lasts 47 rfl) rfl ?_
      exact ev_iret (ea_at dt_X12_lasts 59 rfl) rfl ⟨by decide, by decide⟩ (fun h => hR _ h)
  · refine ev_iconst (ea_at dt_X12_lasts 30 rfl) ic_0 ?_
    exact ev_iret (ea_at dt_X12_lasts 31 rfl) rfl ⟨by decide, by decide⟩ (fun h => hR _ h)
set_option maxHeartbeats 300000 in
theorem jn_X12_lasts_27 (G : ea_G) {res : ea_O}  (p1 : Int32) (p2 : Int32) (p3 : Int32) (x6 : Int32) (m7 : ea_M)  {Φ : (Int32 × ea_M) → Prop} (hR : ∀ t : Int32 × ea_M, Φ t → res = (0, t)) : ea_E G F_X12_lasts res 27 [some (.ref 272), some (.int p1), some (.int p2), some (.int p3), none, none] [.int x6, .ref 272] m7 0 0 (f_X12_lasts_j27 p1 p2 p3 x6 m7) Φ := by
  unfold f_X12_lasts_j27
  refine ev_iconst (ea_at dt_X12_lasts 15 rfl) ic_1 ?_
  refine ev_clI (F1 := F_X12_throwsIf) (fun rY mY hY => ea_runV (As := [.int x6, .int 1]) (ea_at dt_X12_lasts 16 rfl) ml_X12_265 mv_X12_throwsIf (ok_X12_throwsIf G x6 1 m7  rY mY hY) sh_272 rfl rfl rfl (Nat.le_of_ble_eq_true rfl) rfl) rfl (fun r9 m8 => ?_)
  refine ev_if_ne (tgt := 57) (ea_at dt_X12_lasts 17 rfl) rfl (fun _ => ?_) (fun _ => ?_)
  · refine ev_aload_n (ea_at dt_X12_lasts 18 rfl) rfl ?_
    refine ev_iload_n (ea_at dt_X12_lasts 19 rfl) rfl ?_
    refine ev_iconst (ea_at dt_X12_lasts 20 rfl) ic_1 ?_
    refine ev_bipush (ea_at dt_X12_lasts 21 rfl) bp_99 ?_
    refine ev_clI (F1 := F_X12_in) (fun rY mY hY => ea_runS (As := [.int p3, .int 1, .int 99]) (ea_at dt_X12_lasts 22 rfl) ml_X12_78 mv_X12_in (ok_X12_in G p3 1 99 m8  rY mY hY) rfl rfl (Nat.le_of_ble_eq_true rfl) rfl) rfl (fun r11 m10 => ?_)
    refine ev_if_ne (tgt := 49) (ea_at dt_X12_lasts 23 rfl) rfl (fun _ => ?_) (fun _ => ?_)
    · refine ev_iconst (ea_at dt_X12_lasts 24 rfl) ic_1 ?_
      refine ev_goto (tgt := 50) (ea_at dt_X12_lasts 25 rfl) rfl ?_
      exact ev_drop (l' := [some (.ref 272), some (.int p1), some (.int p2), some (.int p3), none, none]) ⟨Or.inr rfl, Or.inr rfl, Or.inr rfl, Or.inr rfl, Or.inl rfl, Or.inl rfl, trivial⟩ (jn_X12_lasts_50 G p1 p2 p3 1 m10  hR)
    · refine ev_iconst (ea_at dt_X12_lasts 26 rfl) ic_0 ?_
      exact ev_drop (l' := [some (.ref 272), some (.int p1), some (.int p2), some (.int p3), none, none]) ⟨Or.inr rfl, Or.inr rfl, Or.inr rfl, Or.inr rfl, Or.inl rfl, Or.inl rfl, trivial⟩ (jn_X12_lasts_50 G p1 p2 p3 0 m10  hR)
  · refine ev_iconst (ea_at dt_X12_lasts 30 rfl) ic_0 ?_
    exact ev_iret (ea_at dt_X12_lasts 31 rfl) rfl ⟨by decide, by decide⟩ (fun h => hR _ h)
set_option maxHeartbeats 300000 in
theorem jn_X12_lasts_22 (G : ea_G) {res : ea_O}  (p1 : Int32) (p2 : Int32) (p3 : Int32) (m23 : ea_M)  {Φ : (Int32 × ea_M) → Prop} (hR : ∀ t : Int32 × ea_M, Φ t → res = (0, t)) : ea_E G F_X12_lasts res 22 [some (.ref 272), some (.int p1), some (.int p2), some (.int p3), none, none] [.ref 272] m23 0 0 (f_X12_lasts_j22 p1 p2 p3 m23) Φ := by
  unfold f_X12_lasts_j22
  refine ev_iconst (ea_at dt_X12_lasts 12 rfl) ic_1 ?_
  refine ev_goto (tgt := 27) (ea_at dt_X12_lasts 13 rfl) rfl ?_
  exact ev_drop (l' := [some (.ref 272), some (.int p1), some (.int p2), some (.int p3), none, none]) ⟨Or.inr rfl, Or.inr rfl, Or.inr rfl, Or.inr rfl, Or.inl rfl, Or.inl rfl, trivial⟩ (jn_X12_lasts_27 G p1 p2 p3 1 m23  hR)
set_option maxHeartbeats 300000 in
theorem ok_X12_lasts (G : ea_G) (p1 : Int32) (p2 : Int32) (p3 : Int32) (m : ea_M)  (rZ : Int32) (mZ : ea_M) (hZ : f_X12_lasts p1 p2 p3 m = some (rZ, mZ)) : ea_Met G yX12_lasts F_X12_lasts [.ref 272, .int p1, .int p2, .int p3] m (0, rZ, mZ) := by
  refine ea_met (F := F_X12_lasts) (by decide +kernel) rfl rfl (Nat.le_of_ble_eq_true rfl) (by simp only [List.mem_cons, List.not_mem_nil, or_false]; intro v hv; rcases hv with rfl | rfl | rfl | rfl <;> rfl) ((?_ : ea_E G F_X12_lasts (0, rZ, mZ) 0 [some (.ref 272), some (.int p1), some (.int p2), some (.int p3), none, none] [] m 0 0 (f_X12_lasts p1 p2 p3 m) (fun t => t = (rZ, mZ))) (rZ, mZ) hZ rfl)
  have hR : ∀ t : Int32 × ea_M, t = (rZ, mZ) → ((0, rZ, mZ) : ea_O) = (0, t) := fun t h => by rw [h]
  unfold f_X12_lasts
  refine ev_aload_n (ea_at dt_X12_lasts 0 rfl) rfl ?_
  refine ev_iconst (ea_at dt_X12_lasts 1 rfl) ic_0 ?_
  refine ev_putI (ea_at dt_X12_lasts 2 rfl) fl_X12_3 fp_12_0 sh_272 rfl ?_
  refine ev_m (fun m1 => ?_)
  refine ev_aload_n (ea_at dt_X12_lasts 3 rfl) rfl ?_
  refine ev_aload_n (ea_at dt_X12_lasts 4 rfl) rfl ?_
  refine ev_iload_n (ea_at dt_X12_lasts 5 rfl) rfl ?_
  refine ev_clI (F1 := F_X12_noCounsel) (fun rY mY hY => ea_runV (As := [.int p1]) (ea_at dt_X12_lasts 6 rfl) ml_X12_393 mv_X12_noCounsel (ok_X12_noCounsel G p1 m1  rY mY hY) sh_272 rfl rfl rfl (Nat.le_of_ble_eq_true rfl) rfl) rfl (fun r3 m2 => ?_)
  refine ev_if_ne (tgt := 22) (ea_at dt_X12_lasts 7 rfl) rfl (fun _ => ?_) (fun _ => ?_)
  · refine ev_aload_n (ea_at dt_X12_lasts 8 rfl) rfl ?_
    refine ev_iload_n (ea_at dt_X12_lasts 9 rfl) rfl ?_
    refine ev_clI (F1 := F_X12_noBird) (fun rY mY hY => ea_runV (As := [.int p2]) (ea_at dt_X12_lasts 10 rfl) ml_X12_303 mv_X12_noBird (ok_X12_noBird G p2 m2  rY mY hY) sh_272 rfl rfl rfl (Nat.le_of_ble_eq_true rfl) rfl) rfl (fun r5 m4 => ?_)
    refine ev_if_eq (tgt := 26) (ea_at dt_X12_lasts 11 rfl) rfl (fun _ => ?_) (fun _ => ?_)
    · refine ev_iconst (ea_at dt_X12_lasts 14 rfl) ic_0 ?_
      exact ev_drop (l' := [some (.ref 272), some (.int p1), some (.int p2), some (.int p3), none, none]) ⟨Or.inr rfl, Or.inr rfl, Or.inr rfl, Or.inr rfl, Or.inl rfl, Or.inl rfl, trivial⟩ (jn_X12_lasts_27 G p1 p2 p3 0 m4  hR)
    · exact ev_drop (l' := [some (.ref 272), some (.int p1), some (.int p2), some (.int p3), none, none]) ⟨Or.inr rfl, Or.inr rfl, Or.inr rfl, Or.inr rfl, Or.inl rfl, Or.inl rfl, trivial⟩ (jn_X12_lasts_22 G p1 p2 p3 m4  hR)
  · exact ev_drop (l' := [some (.ref 272), some (.int p1), some (.int p2), some (.int p3), none, none]) ⟨Or.inr rfl, Or.inr rfl, Or.inr rfl, Or.inr rfl, Or.inl rfl, Or.inl rfl, trivial⟩ (jn_X12_lasts_22 G p1 p2 p3 m2  hR)
def F_X12_allOf : ea_F := (ea_rm 10 0 0, cX12_allOf, RX12, some .int, 4, [], 0, 0)
def D_X12_allOf : List (Nat × Instr × Nat) := [(0, .iconst 0, 1), (1, .istore_n 2, 1), (2, .iconst 0, 1), (3, .istore_n 3, 1), (4, .iload_n 3, 1), (5, .aload_n 0, 1), (6, .invokevirtual 74, 3), (9, .if_icmp .ge 18, 3), (12, .iload_n 2, 1), (13, .aload_n 0, 1), (14, .iload_n 1, 1), (15, .iload_n 3, 1), (16, .invokevirtual 390, 3), (19, .iadd, 1), (20, .istore_n 2, 1), (21, .iinc 3 1, 3), (24, .goto (-20), 3), (27, .iload_n 2, 1), (28, .ireturn, 1)]
theorem dt_X12_allOf : ∀ q ∈ D_X12_allOf, decode cX12_allOf q.1 = .ok q.2 := by decide +kernel
theorem mv_X12_allOf : ea_MV yX12_allOf (F_X12_allOf) 1 := ⟨⟨List.mem_append_right _ (List.mem_of_getElem? (i := 13) (by decide +kernel)), List.mem_append_right _ (List.mem_of_getElem? (i := 2001) (by decide +kernel)), ⟨by decide, by decide⟩, by decide +kernel⟩, List.mem_append_right _ (List.mem_of_getElem? (i := 2000) (by decide +kernel)), List.mem_append_left _ (List.mem_of_getElem? (i := 116) (by decide +kernel))⟩
def f_X12_allOf_s4 (p1 : Int32)  (s4 : Int32 × Int32 × ea_M) : Option ((Int32 × Int32 × ea_M) ⊕ (Int32 × ea_M)) :=
  ea_cl (f_X12_birds s4.2.2) fun r2 m1 =>
  if r2 ≤ s4.2.1 then
  some (.inr (s4.1, m1))
  else
  ea_cl (f_X12_stockOf p1 s4.2.1 m1) fun r4 m3 =>
  ea_bd (s4.1 + r4) fun x5 =>
  some (.inl (x5, s4.2.1 + 1, m3))
def f_X12_allOf (p1 : Int32) (m : ea_M) : Option (Int32 × ea_M) :=
  (ea_loop (f_X12_allOf_s4 p1) ea_fuel (0, 0, m)).bind (fun x4s =>
  some (x4s.1, x4s.2))
set_option maxHeartbeats 300000 in
theorem lp_X12_allOf_4 (G : ea_G) {res : ea_O}  (p1 : Int32)  {Ψ : (Int32 × ea_M) → Prop} (hX : ∀ x4s : Int32 × ea_M, Ψ x4s → ea_Ev G F_X12_allOf res 27 [none, none, some (.int x4s.1), none] [] x4s.2 0 0) : ∀ (f : Nat) (s4 : Int32 × Int32 × ea_M), ea_E G F_X12_allOf res 4 [some (.ref 272), some (.int p1), some (.int s4.1), some (.int s4.2.1)] [] s4.2.2 0 0 (ea_loop (f_X12_allOf_s4 p1) f s4) Ψ := by
  refine ev_loop (G := G) (F := F_X12_allOf) (res := res) (pc := 4) (st := []) (k := 0) (n := 0) (step := (f_X12_allOf_s4 p1)) (Ψ := Ψ) (fun (s4 : Int32 × Int32 × ea_M) => [some (.ref 272), some (.int p1), some (.int s4.1), some (.int s4.2.1)]) (fun (s4 : Int32 × Int32 × ea_M) => s4.2.2) (fun s4 => ?_)
  have hC : ∀ s4 : Int32 × Int32 × ea_M, (Sum.elim (fun s4 : Int32 × Int32 × ea_M => ea_Ev G F_X12_allOf res 4 [some (.ref 272), some (.int p1), some (.int s4.1), some (.int s4.2.1)] [] s4.2.2 0 0) Ψ) (.inl s4) → ea_Ev G F_X12_allOf res 4 [some (.ref 272), some (.int p1), some (.int s4.1), some (.int s4.2.1)] [] s4.2.2 0 0 := fun _ h => h
  have hX : ∀ x4s : Int32 × ea_M, (Sum.elim (fun s4 : Int32 × Int32 × ea_M => ea_Ev G F_X12_allOf res 4 [some (.ref 272), some (.int p1), some (.int s4.1), some (.int s4.2.1)] [] s4.2.2 0 0) Ψ) (.inr x4s) → ea_Ev G F_X12_allOf res 27 [none, none, some (.int x4s.1), none] [] x4s.2 0 0 := hX
  unfold f_X12_allOf_s4
  refine ev_iload_n (ea_at dt_X12_allOf 4 rfl) rfl ?_
  refine ev_aload_n (ea_at dt_X12_allOf 5 rfl) rfl ?_
  refine ev_clI (F1 := F_X12_birds) (fun rY mY hY => ea_runV (As := []) (ea_at dt_X12_allOf 6 rfl) ml_X12_74 mv_X12_birds (ok_X12_birds G s4.2.2  rY mY hY) sh_272 rfl rfl rfl (Nat.le_of_ble_eq_true rfl) rfl) rfl (fun r2 m1 => ?_)
  refine ev_icmp_ge (tgt := 27) (ea_at dt_X12_allOf 7 rfl) rfl (fun _ => ?_) (fun _ => ?_)
  · exact ev_leaf (fun h => ea_drop (l' := [none, none, some (.int s4.1), none]) ⟨Or.inl rfl, Or.inl rfl, Or.inr rfl, Or.inl rfl, trivial⟩ (hX (s4.1, m1) h))
  · refine ev_iload_n (ea_at dt_X12_allOf 8 rfl) rfl ?_
    refine ev_aload_n (ea_at dt_X12_allOf 9 rfl) rfl ?_
    refine ev_iload_n (ea_at dt_X12_allOf 10 rfl) rfl ?_
    refine ev_iload_n (ea_at dt_X12_allOf 11 rfl) rfl ?_
    refine ev_clI (F1 := F_X12_stockOf) (fun rY mY hY => ea_runV (As := [.int p1, .int s4.2.1]) (ea_at dt_X12_allOf 12 rfl) ml_X12_390 mv_X12_stockOf (ok_X12_stockOf G p1 s4.2.1 m1  rY mY hY) sh_272 rfl rfl rfl (Nat.le_of_ble_eq_true rfl) rfl) rfl (fun r4 m3 => ?_)
    refine ev_iadd (ea_at dt_X12_allOf 13 rfl) ?_
    refine ev_i (fun x5 => ?_)
    refine ev_istore_n (ls' := [some (.ref 272), some (.int p1), some (.int x5), some (.int s4.2.1)]) (ea_at dt_X12_allOf 14 rfl) (ea_lt rfl) rfl ?_
    refine ev_iinc (ls' := [some (.ref 272), some (.int p1), some (.int x5), some (.int (s4.2.1 + 1))]) (ea_at dt_X12_allOf 15 rfl) rfl (congrArg (fun z => _ + z) ic_1) (ea_lt rfl) rfl ?_
    refine ev_goto (tgt := 4) (ea_at dt_X12_allOf 16 rfl) rfl ?_
    exact ev_leaf (fun h => ea_drop (l' := [some (.ref 272), some (.int p1), some (.int x5), some (.int (s4.2.1 + 1))]) ⟨Or.inr rfl, Or.inr rfl, Or.inr rfl, Or.inr rfl, trivial⟩ (hC (x5, s4.2.1 + 1, m3) h))
set_option maxHeartbeats 300000 in
theorem ok_X12_allOf (G : ea_G) (p1 : Int32) (m : ea_M)  (rZ : Int32) (mZ : ea_M) (hZ : f_X12_allOf p1 m = some (rZ, mZ)) : ea_Met G yX12_allOf F_X12_allOf [.ref 272, .int p1] m (0, rZ, mZ) := by
  refine ea_met (F := F_X12_allOf) (by decide +kernel) rfl rfl (Nat.le_of_ble_eq_true rfl) (by simp only [List.mem_cons, List.not_mem_nil, or_false]; intro v hv; rcases hv with rfl | rfl <;> rfl) ((?_ : ea_E G F_X12_allOf (0, rZ, mZ) 0 [some (.ref 272), some (.int p1), none, none] [] m 0 0 (f_X12_allOf p1 m) (fun t => t = (rZ, mZ))) (rZ, mZ) hZ rfl)
  have hR : ∀ t : Int32 × ea_M, t = (rZ, mZ) → ((0, rZ, mZ) : ea_O) = (0, t) := fun t h => by rw [h]
  unfold f_X12_allOf
  refine ev_iconst (ea_at dt_X12_allOf 0 rfl) ic_0 ?_
  refine ev_istore_n (ls' := [some (.ref 272), some (.int p1), some (.int 0), none]) (ea_at dt_X12_allOf 1 rfl) (ea_lt rfl) rfl ?_
  refine ev_iconst (ea_at dt_X12_allOf 2 rfl) ic_0 ?_
  refine ev_istore_n (ls' := [some (.ref 272), some (.int p1), some (.int 0), some (.int 0)]) (ea_at dt_X12_allOf 3 rfl) (ea_lt rfl) rfl ?_
  refine ev_drop (l' := [some (.ref 272), some (.int p1), some (.int 0), some (.int 0)]) ⟨Or.inr rfl, Or.inr rfl, Or.inr rfl, Or.inr rfl, trivial⟩ ?_
  refine ev_bind (lp_X12_allOf_4 G p1   (fun x4s h => ?_) ea_fuel (0, 0, m))
  obtain ⟨t1, e1, q1⟩ := h
  refine (?_ : ea_E G F_X12_allOf (0, rZ, mZ) 27 [none, none, some (.int x4s.1), none] [] x4s.2 0 0 _ (fun t => t = (rZ, mZ))) t1 e1 q1
  refine ev_iload_n (ea_at dt_X12_allOf 17 rfl) rfl ?_
  exact ev_iret (ea_at dt_X12_allOf 18 rfl) rfl ⟨by decide, by decide⟩ (fun h => hR _ h)
def F_X12_rich : ea_F := (ea_rm 11 0 0, cX12_rich, RX12, some .int, 3, [], 0, 0)
def D_X12_rich : List (Nat × Instr × Nat) := [(0, .aload_n 0, 1), (1, .iconst 0, 1), (2, .putfield 3, 3), (5, .iconst (-1), 1), (6, .istore_n 1, 1), (7, .iconst 0, 1), (8, .istore_n 2, 1), (9, .iload_n 2, 1), (10, .aload_n 0, 1), (11, .invokevirtual 82, 3), (14, .if_icmp .ge 28, 3), (17, .iload_n 1, 1), (18, .ifCond .lt 16, 3), (21, .aload_n 0, 1), (22, .iload_n 2, 1), (23, .invokevirtual 444, 3), (26, .aload_n 0, 1), (27, .iload_n 1, 1), (28, .invokevirtual 444, 3), (31, .if_icmp .le 5, 3), (34, .iload_n 2, 1), (35, .istore_n 1, 1), (36, .iinc 2 1, 3), (39, .goto (-30), 3), (42, .iload_n 1, 1), (43, .ireturn, 1)]
theorem dt_X12_rich : ∀ q ∈ D_X12_rich, decode cX12_rich q.1 = .ok q.2 := by decide +kernel
theorem mv_X12_rich : ea_MV yX12_rich (F_X12_rich) 0 := ⟨⟨List.mem_append_right _ (List.mem_of_getElem? (i := 13) (by decide +kernel)), List.mem_append_right _ (List.mem_of_getElem? (i := 1997) (by decide +kernel)), ⟨by decide, by decide⟩, by decide +kernel⟩, List.mem_append_right _ (List.mem_of_getElem? (i := 1995) (by decide +kernel)), List.mem_append_right _ (List.mem_of_getElem? (i := 1996) (by decide +kernel))⟩
def f_X12_rich_j36 (x6 : Int32) (x7 : Int32) (m8 : ea_M) : Option ((Int32 × Int32 × ea_M) ⊕ (Int32 × ea_M)) :=
  some (.inl (x6, x7 + 1, m8))
def f_X12_rich_j34 (x4 : Int32) (m5 : ea_M) : Option ((Int32 × Int32 × ea_M) ⊕ (Int32 × ea_M)) :=
  f_X12_rich_j36 x4 x4 m5
def f_X12_rich_s9  (s9 : Int32 × Int32 × ea_M) : Option ((Int32 × Int32 × ea_M) ⊕ (Int32 × ea_M)) :=
  ea_cl (f_X12_counsel s9.2.2) fun r3 m2 =>
  if r3 ≤ s9.2.1 then
  some (.inr (s9.1, m2))
  else
  if s9.1 < 0 then
  f_X12_rich_j34 s9.2.1 m2
  else
  ea_cl (f_X12_allOf s9.2.1 m2) fun r10 m9 =>
  ea_cl (f_X12_allOf s9.1 m9) fun r12 m11 =>
  if r10 ≤ r12 then
  f_X12_rich_j36 s9.1 s9.2.1 m11
  else
  f_X12_rich_j34 s9.2.1 m11
def f_X12_rich (m : ea_M) : Option (Int32 × ea_M) :=
  ea_bd (ea_st m 272 0 0) fun m1 =>
  (ea_loop f_X12_rich_s9 ea_fuel ((-1), 0, m1)).bind (fun x9s =>
  some (x9s.1, x9s.2))
set_option maxHeartbeats 300000 in
theorem jn_X12_rich_36 (G : ea_G) {res : ea_O}  (x6 : Int32) (x7 : Int32) (m8 : ea_M)  {Φ : ((Int32 × Int32 × ea_M) ⊕ (Int32 × ea_M)) → Prop} (hC : ∀ s9 : Int32 × Int32 × ea_M, Φ (.inl s9) → ea_Ev G F_X12_rich res 9 [some (.ref 272), some (.int s9.1), some (.int s9.2.1)] [] s9.2.2 0 0) (hX : ∀ x9s : Int32 × ea_M, Φ (.inr x9s) → ea_Ev G F_X12_rich res 42 [none, some (.int x9s.1), none] [] x9s.2 0 0) : ea_E G F_X12_rich res 36 [some (.ref 272), some (.int x6), some (.int x7)] [] m8 0 0 (f_X12_rich_j36 x6 x7 m8) Φ := by
  unfold f_X12_rich_j36
  refine ev_iinc (ls' := [some (.ref 272), some (.int x6), some (.int (x7 + 1))]) (ea_at dt_X12_rich 22 rfl) rfl (congrArg (fun z => _ + z) ic_1) (ea_lt rfl) rfl ?_
  refine ev_goto (tgt := 9) (ea_at dt_X12_rich 23 rfl) rfl ?_
  exact ev_leaf (fun h => ea_drop (l' := [some (.ref 272), some (.int x6), some (.int (x7 + 1))]) ⟨Or.inr rfl, Or.inr rfl, Or.inr rfl, trivial⟩ (hC (x6, x7 + 1, m8) h))
set_option maxHeartbeats 300000 in
theorem jn_X12_rich_34 (G : ea_G) {res : ea_O}  (x4 : Int32) (m5 : ea_M)  {Φ : ((Int32 × Int32 × ea_M) ⊕ (Int32 × ea_M)) → Prop} (hC : ∀ s9 : Int32 × Int32 × ea_M, Φ (.inl s9) → ea_Ev G F_X12_rich res 9 [some (.ref 272), some (.int s9.1), some (.int s9.2.1)] [] s9.2.2 0 0) (hX : ∀ x9s : Int32 × ea_M, Φ (.inr x9s) → ea_Ev G F_X12_rich res 42 [none, some (.int x9s.1), none] [] x9s.2 0 0) : ea_E G F_X12_rich res 34 [some (.ref 272), none, some (.int x4)] [] m5 0 0 (f_X12_rich_j34 x4 m5) Φ := by
  unfold f_X12_rich_j34
  refine ev_iload_n (ea_at dt_X12_rich 20 rfl) rfl ?_
  refine ev_istore_n (ls' := [some (.ref 272), some (.int x4), some (.int x4)]) (ea_at dt_X12_rich 21 rfl) (ea_lt rfl) rfl ?_
  exact ev_drop (l' := [some (.ref 272), some (.int x4), some (.int x4)]) ⟨Or.inr rfl, Or.inr rfl, Or.inr rfl, trivial⟩ (jn_X12_rich_36 G x4 x4 m5  hC hX)
set_option maxHeartbeats 300000 in
theorem lp_X12_rich_9 (G : ea_G) {res : ea_O}    {Ψ : (Int32 × ea_M) → Prop} (hX : ∀ x9s : Int32 × ea_M, Ψ x9s → ea_Ev G F_X12_rich res 42 [none, some (.int x9s.1), none] [] x9s.2 0 0) : ∀ (f : Nat) (s9 : Int32 × Int32 × ea_M), ea_E G F_X12_rich res 9 [some (.ref 272), some (.int s9.1), some (.int s9.2.1)] [] s9.2.2 0 0 (ea_loop f_X12_rich_s9 f s9) Ψ := by
  refine ev_loop (G := G) (F := F_X12_rich) (res := res) (pc := 9) (st := []) (k := 0) (n := 0) (step := f_X12_rich_s9) (Ψ := Ψ) (fun (s9 : Int32 × Int32 × ea_M) => [some (.ref 272), some (.int s9.1), some (.int s9.2.1)]) (fun (s9 : Int32 × Int32 × ea_M) => s9.2.2) (fun s9 => ?_)
  have hC : ∀ s9 : Int32 × Int32 × ea_M, (Sum.elim (fun s9 : Int32 × Int32 × ea_M => ea_Ev G F_X12_rich res 9 [some (.ref 272), some (.int s9.1), some (.int s9.2.1)] [] s9.2.2 0 0) Ψ) (.inl s9) → ea_Ev G F_X12_rich res 9 [some (.ref 272), some (.int s9.1), some (.int s9.2.1)] [] s9.2.2 0 0 := fun _ h => h
  have hX : ∀ x9s : Int32 × ea_M, (Sum.elim (fun s9 : Int32 × Int32 × ea_M => ea_Ev G F_X12_rich res 9 [some (.ref 272), some (.int s9.1), some (.int s9.2.1)] [] s9.2.2 0 0) Ψ) (.inr x9s) → ea_Ev G F_X12_rich res 42 [none, some (.int x9s.1), none] [] x9s.2 0 0 := hX
  unfold f_X12_rich_s9
  refine ev_iload_n (ea_at dt_X12_rich 7 rfl) rfl ?_
  refine ev_aload_n (ea_at dt_X12_rich 8 rfl) rfl ?_
  refine ev_clI (F1 := F_X12_counsel) (fun rY mY hY => ea_runV (As := []) (ea_at dt_X12_rich 9 rfl) ml_X12_82 mv_X12_counsel (ok_X12_counsel G s9.2.2  rY mY hY) sh_272 rfl rfl rfl (Nat.le_of_ble_eq_true rfl) rfl) rfl (fun r3 m2 => ?_)
  refine ev_icmp_ge (tgt := 42) (ea_at dt_X12_rich 10 rfl) rfl (fun _ => ?_) (fun _ => ?_)
  · exact ev_leaf (fun h => ea_drop (l' := [none, some (.int s9.1), none]) ⟨Or.inl rfl, Or.inr rfl, Or.inl rfl, trivial⟩ (hX (s9.1, m2) h))
  · refine ev_iload_n (ea_at dt_X12_rich 11 rfl) rfl ?_
    refine ev_if_lt (tgt := 34) (ea_at dt_X12_rich 12 rfl) rfl (fun _ => ?_) (fun _ => ?_)
    · exact ev_drop (l' := [some (.ref 272), none, some (.int s9.2.1)]) ⟨Or.inr rfl, Or.inl rfl, Or.inr rfl, trivial⟩ (jn_X12_rich_34 G s9.2.1 m2  hC hX)
    · refine ev_aload_n (ea_at dt_X12_rich 13 rfl) rfl ?_
      refine ev_iload_n (ea_at dt_X12_rich 14 rfl) rfl ?_
      refine ev_clI (F1 := F_X12_allOf) (fun rY mY hY => ea_runV (As := [.int s9.2.1]) (ea_at dt_X12_rich 15 rfl) ml_X12_444 mv_X12_allOf (ok_X12_allOf G s9.2.1 m2  rY mY hY) sh_272 rfl rfl rfl (Nat.le_of_ble_eq_true rfl) rfl) rfl (fun r10 m9 => ?_)
      refine ev_aload_n (ea_at dt_X12_rich 16 rfl) rfl ?_
      refine ev_iload_n (ea_at dt_X12_rich 17 rfl) rfl ?_
      refine ev_clI (F1 := F_X12_allOf) (fun rY mY hY => ea_runV (As := [.int s9.1]) (ea_at dt_X12_rich 18 rfl) ml_X12_444 mv_X12_allOf (ok_X12_allOf G s9.1 m9  rY mY hY) sh_272 rfl rfl rfl (Nat.le_of_ble_eq_true rfl) rfl) rfl (fun r12 m11 => ?_)
      refine ev_icmp_le (tgt := 36) (ea_at dt_X12_rich 19 rfl) rfl (fun _ => ?_) (fun _ => ?_)
      · exact ev_drop (l' := [some (.ref 272), some (.int s9.1), some (.int s9.2.1)]) ⟨Or.inr rfl, Or.inr rfl, Or.inr rfl, trivial⟩ (jn_X12_rich_36 G s9.1 s9.2.1 m11  hC hX)
      · exact ev_drop (l' := [some (.ref 272), none, some (.int s9.2.1)]) ⟨Or.inr rfl, Or.inl rfl, Or.inr rfl, trivial⟩ (jn_X12_rich_34 G s9.2.1 m11  hC hX)
set_option maxHeartbeats 300000 in
theorem ok_X12_rich (G : ea_G) (m : ea_M)  (rZ : Int32) (mZ : ea_M) (hZ : f_X12_rich m = some (rZ, mZ)) : ea_Met G yX12_rich F_X12_rich [.ref 272] m (0, rZ, mZ) := by
  refine ea_met (F := F_X12_rich) (by decide +kernel) rfl rfl (Nat.le_of_ble_eq_true rfl) (by simp only [List.mem_cons, List.not_mem_nil, or_false]; intro v hv; rcases hv with rfl <;> rfl) ((?_ : ea_E G F_X12_rich (0, rZ, mZ) 0 [some (.ref 272), none, none] [] m 0 0 (f_X12_rich m) (fun t => t = (rZ, mZ))) (rZ, mZ) hZ rfl)
  have hR : ∀ t : Int32 × ea_M, t = (rZ, mZ) → ((0, rZ, mZ) : ea_O) = (0, t) := fun t h => by rw [h]
  unfold f_X12_rich
  refine ev_aload_n (ea_at dt_X12_rich 0 rfl) rfl ?_
  refine ev_iconst (ea_at dt_X12_rich 1 rfl) ic_0 ?_
  refine ev_putI (ea_at dt_X12_rich 2 rfl) fl_X12_3 fp_12_0 sh_272 rfl ?_
  refine ev_m (fun m1 => ?_)
  refine ev_iconst (ea_at dt_X12_rich 3 rfl) ic_m1 ?_
  refine ev_istore_n (ls' := [some (.ref 272), some (.int (-1)), none]) (ea_at dt_X12_rich 4 rfl) (ea_lt rfl) rfl ?_
  refine ev_iconst (ea_at dt_X12_rich 5 rfl) ic_0 ?_
  refine ev_istore_n (ls' := [some (.ref 272), some (.int (-1)), some (.int 0)]) (ea_at dt_X12_rich 6 rfl) (ea_lt rfl) rfl ?_
  refine ev_drop (l' := [some (.ref 272), some (.int (-1)), some (.int 0)]) ⟨Or.inr rfl, Or.inr rfl, Or.inr rfl, trivial⟩ ?_
  refine ev_bind (lp_X12_rich_9 G   (fun x9s h => ?_) ea_fuel ((-1), 0, m1))
  obtain ⟨t1, e1, q1⟩ := h
  refine (?_ : ea_E G F_X12_rich (0, rZ, mZ) 42 [none, some (.int x9s.1), none] [] x9s.2 0 0 _ (fun t => t = (rZ, mZ))) t1 e1 q1
  refine ev_iload_n (ea_at dt_X12_rich 24 rfl) rfl ?_
  exact ev_iret (ea_at dt_X12_rich 25 rfl) rfl ⟨by decide, by decide⟩ (fun h => hR _ h)
def F_X12_won : ea_F := (ea_rm 10 0 0, cX12_won, RX12, some .int, 6, [], 0, 0)
def D_X12_won : List (Nat × Instr × Nat) := [(0, .aload_n 0, 1), (1, .iconst 0, 1), (2, .putfield 3, 3), (5, .aload_n 0, 1), (6, .aload_n 0, 1), (7, .iload_n 1, 1), (8, .invokevirtual 393, 3), (11, .iconst 1, 1), (12, .invokevirtual 265, 3), (15, .ifCond .eq 5, 3), (18, .iconst 0, 1), (19, .ireturn, 1), (20, .iconst 0, 1), (21, .istore_n 3, 1), (22, .iconst 0, 1), (23, .istore 4, 2), (25, .iload 4, 2), (27, .aload_n 0, 1), (28, .invokevirtual 85, 3), (31, .if_icmp .ge 84, 3), (34, .aload_n 0, 1), (35, .iload 4, 2), (37, .iconst 3, 1), (38, .invokevirtual 387, 3), (41, .istore 5, 2), (43, .aload_n 0, 1), (44, .iload 4, 2), (46, .iconst 0, 1), (47, .invokevirtual 387, 3), (50, .iload_n 1, 1), (51, .if_icmp .ne 25, 3), (54, .iload_n 3, 1), (55, .iload 5, 2), (57, .iload_n 2, 1), (58, .ifCond .eq 7, 3), (61, .iconst 2, 1), (62, .goto 4, 3), (65, .iconst 1, 1), (66, .if_icmp .ne 7, 3), (69, .iconst 1, 1), (70, .goto 4, 3), (73, .iconst 0, 1), (74, .iadd, 1), (75, .istore_n 3, 1), (76, .aload_n 0, 1), (77, .iload 4, 2), (79, .iconst 1, 1), (80, .invokevirtual 387, 3), (83, .iload_n 1, 1), (84, .if_icmp .ne 25, 3), (87, .iload_n 3, 1), (88, .iload 5, 2), (90, .iload_n 2, 1), (91, .ifCond .eq 7, 3), (94, .iconst 1, 1), (95, .goto 4, 3), (98, .iconst 2, 1), (99, .if_icmp .ne 7, 3), (102, .iconst 1, 1), (103, .goto 4, 3), (106, .iconst 0, 1), (107, .iadd, 1), (108, .istore_n 3, 1), (109, .iinc 4 1, 3), (112, .goto (-87), 3), (115, .iload_n 3, 1), (116, .ireturn, 1)]
theorem dt_X12_won : ∀ q ∈ D_X12_won, decode cX12_won q.1 = .ok q.2 := by decide +kernel
theorem mv_X12_won : ea_MV yX12_won (F_X12_won) 2 := ⟨⟨List.mem_append_right _ (List.mem_of_getElem? (i := 13) (by decide +kernel)), List.mem_append_right _ (List.mem_of_getElem? (i := 2005) (by decide +kernel)), ⟨by decide, by decide⟩, by decide +kernel⟩, List.mem_append_right _ (List.mem_of_getElem? (i := 2003) (by decide +kernel)), List.mem_append_right _ (List.mem_of_getElem? (i := 2004) (by decide +kernel))⟩
def f_X12_won_j109 (p1 : Int32) (p2 : Int32) (x40 : Int32) (x41 : Int32) (m42 : ea_M) : Option ((Int32 × Int32 × ea_M) ⊕ (Int32 × ea_M)) :=
  some (.inl (x40, x41 + 1, m42))
def f_X12_won_j107 (p1 : Int32) (p2 : Int32) (x35 : Int32) (x36 : Int32) (x37 : Int32) (m38 : ea_M) : Option ((Int32 × Int32 × ea_M) ⊕ (Int32 × ea_M)) :=
  ea_bd (x36 + x37) fun x39 =>
  f_X12_won_j109 p1 p2 x39 x35 m38
def f_X12_won_j99 (p1 : Int32) (p2 : Int32) (x30 : Int32) (x31 : Int32) (x32 : Int32) (x33 : Int32) (m34 : ea_M) : Option ((Int32 × Int32 × ea_M) ⊕ (Int32 × ea_M)) :=
  if x32 = x33 then
  f_X12_won_j107 p1 p2 x30 x31 1 m34
  else
  f_X12_won_j107 p1 p2 x30 x31 0 m34
def f_X12_won_j76 (p1 : Int32) (p2 : Int32) (x24 : Int32) (x25 : Int32) (x26 : Int32) (m27 : ea_M) : Option ((Int32 × Int32 × ea_M) ⊕ (Int32 × ea_M)) :=
  ea_cl (f_X12_ofCase x25 1 m27) fun r29 m28 =>
  if r29 = p1 then
  if p2 = 0 then
  f_X12_won_j99 p1 p2 x25 x24 x26 2 m28
  else
  f_X12_won_j99 p1 p2 x25 x24 x26 1 m28
  else
  f_X12_won_j109 p1 p2 x24 x25 m28
def f_X12_won_j74 (p1 : Int32) (p2 : Int32) (x18 : Int32) (x19 : Int32) (x20 : Int32) (x21 : Int32) (m22 : ea_M) : Option ((Int32 × Int32 × ea_M) ⊕ (Int32 × ea_M)) :=
  ea_bd (x20 + x21) fun x23 =>
  f_X12_won_j76 p1 p2 x23 x18 x19 m22
def f_X12_won_j66 (p1 : Int32) (p2 : Int32) (x12 : Int32) (x13 : Int32) (x14 : Int32) (x15 : Int32) (x16 : Int32) (m17 : ea_M) : Option ((Int32 × Int32 × ea_M) ⊕ (Int32 × ea_M)) :=
  if x15 = x16 then
  f_X12_won_j74 p1 p2 x12 x13 x14 1 m17
  else
  f_X12_won_j74 p1 p2 x12 x13 x14 0 m17
def f_X12_won_s25 (p1 : Int32) (p2 : Int32)  (s25 : Int32 × Int32 × ea_M) : Option ((Int32 × Int32 × ea_M) ⊕ (Int32 × ea_M)) :=
  ea_cl (f_X12_cases s25.2.2) fun r7 m6 =>
  if r7 ≤ s25.2.1 then
  some (.inr (s25.1, m6))
  else
  ea_cl (f_X12_ofCase s25.2.1 3 m6) fun r9 m8 =>
  ea_cl (f_X12_ofCase s25.2.1 0 m8) fun r11 m10 =>
  if r11 = p1 then
  if p2 = 0 then
  f_X12_won_j66 p1 p2 s25.2.1 r9 s25.1 r9 1 m10
  else
  f_X12_won_j66 p1 p2 s25.2.1 r9 s25.1 r9 2 m10
  else
  f_X12_won_j76 p1 p2 s25.1 s25.2.1 r9 m10
def f_X12_won (p1 : Int32) (p2 : Int32) (m : ea_M) : Option (Int32 × ea_M) :=
  ea_bd (ea_st m 272 0 0) fun m1 =>
  ea_cl (f_X12_noCounsel p1 m1) fun r3 m2 =>
  ea_cl (f_X12_throwsIf r3 1 m2) fun r5 m4 =>
  if r5 = 0 then
  (ea_loop (f_X12_won_s25 p1 p2) ea_fuel (0, 0, m4)).bind (fun x25s =>
  some (x25s.1, x25s.2))
  else
  some (0, m4)
set_option maxHeartbeats 300000 in
theorem jn_X12_won_109 (G : ea_G) {res : ea_O}  (p1 : Int32) (p2 : Int32) (x40 : Int32) (x41 : Int32) (m42 : ea_M)  {Φ : ((Int32 × Int32 × ea_M) ⊕ (Int32 × ea_M)) → Prop} (hC : ∀ s25 : Int32 × Int32 × ea_M, Φ (.inl s25) → ea_Ev G F_X12_won res 25 [some (.ref 272), some (.int p1), some (.int p2), some (.int s25.1), some (.int s25.2.1), none] [] s25.2.2 0 0) (hX : ∀ x25s : Int32 × ea_M, Φ (.inr x25s) → ea_Ev G F_X12_won res 115 [none, none, none, some (.int x25s.1), none, none] [] x25s.2 0 0) : ea_E G F_X12_won res 109 [some (.ref 272), some (.int p1), some (.int p2), some (.int x40), some (.int x41), none] [] m42 0 0 (f_X12_won_j109 p1 p2 x40 x41 m42) Φ := by
  unfold f_X12_won_j109
  refine ev_iinc (ls' := [some (.ref 272), some (.int p1), some (.int p2), some (.int x40), some (.int (x41 + 1)), none]) (ea_at dt_X12_won 63 rfl) rfl (congrArg (fun z => _ + z) ic_1) (ea_lt rfl) rfl ?_
  refine ev_goto (tgt := 25) (ea_at dt_X12_won 64 rfl) rfl ?_
  exact ev_leaf (fun h => ea_drop (l' := [some (.ref 272), some (.int p1), some (.int p2), some (.int x40), some (.int (x41 + 1)), none]) ⟨Or.inr rfl, Or.inr rfl, Or.inr rfl, Or.inr rfl, Or.inr rfl, Or.inl rfl, trivial⟩ (hC (x40, x41 + 1, m42) h))
set_option maxHeartbeats 300000 in
theorem jn_X12_won_107 (G : ea_G) {res : ea_O}  (p1 : Int32) (p2 : Int32) (x35 : Int32) (x36 : Int32) (x37 : Int32) (m38 : ea_M)  {Φ : ((Int32 × Int32 × ea_M) ⊕ (Int32 × ea_M)) → Prop} (hC : ∀ s25 : Int32 × Int32 × ea_M, Φ (.inl s25) → ea_Ev G F_X12_won res 25 [some (.ref 272), some (.int p1), some (.int p2), some (.int s25.1), some (.int s25.2.1), none] [] s25.2.2 0 0) (hX : ∀ x25s : Int32 × ea_M, Φ (.inr x25s) → ea_Ev G F_X12_won res 115 [none, none, none, some (.int x25s.1), none, none] [] x25s.2 0 0) : ea_E G F_X12_won res 107 [some (.ref 272), some (.int p1), some (.int p2), none, some (.int x35), none] [.int x37, .int x36] m38 0 0 (f_X12_won_j107 p1 p2 x35 x36 x37 m38) Φ := by
  unfold f_X12_won_j107
  refine ev_iadd (ea_at dt_X12_won 61 rfl) ?_
  refine ev_i (fun x39 => ?_)
  refine ev_istore_n (ls' := [some (.ref 272), some (.int p1), some (.int p2), some (.int x39), some (.int x35), none]) (ea_at dt_X12_won 62 rfl) (ea_lt rfl) rfl ?_
  exact ev_drop (l' := [some (.ref 272), some (.int p1), some (.int p2), some (.int x39), some (.int x35), none]) ⟨Or.inr rfl, Or.inr rfl, Or.inr rfl, Or.inr rfl, Or.inr rfl, Or.inl rfl, trivial⟩ (jn_X12_won_109 G p1 p2 x39 x35 m38  hC hX)
set_option maxHeartbeats 300000 in
theorem jn_X12_won_99 (G : ea_G) {res : ea_O}  (p1 : Int32) (p2 : Int32) (x30 : Int32) (x31 : Int32) (x32 : Int32) (x33 : Int32) (m34 : ea_M)  {Φ : ((Int32 × Int32 × ea_M) ⊕ (Int32 × ea_M)) → Prop} (hC : ∀ s25 : Int32 × Int32 × ea_M, Φ (.inl s25) → ea_Ev G F_X12_won res 25 [some (.ref 272), some (.int p1), some (.int p2), some (.int s25.1), some (.int s25.2.1), none] [] s25.2.2 0 0) (hX : ∀ x25s : Int32 × ea_M, Φ (.inr x25s) → ea_Ev G F_X12_won res 115 [none, none, none, some (.int x25s.1), none, none] [] x25s.2 0 0) : ea_E G F_X12_won res 99 [some (.ref 272), some (.int p1), some (.int p2), none, some (.int x30), none] [.int x33, .int x32, .int x31] m34 0 0 (f_X12_won_j99 p1 p2 x30 x31 x32 x33 m34) Φ := by
  unfold f_X12_won_j99
  refine ev_icmp_ne (tgt := 106) (ea_at dt_X12_won 57 rfl) rfl (fun _ => ?_) (fun _ => ?_)
  · refine ev_iconst (ea_at dt_X12_won 58 rfl) ic_1 ?_
    refine ev_goto (tgt := 107) (ea_at dt_X12_won 59 rfl) rfl ?_
    exact ev_drop (l' := [some (.ref 272), some (.int p1), some (.int p2), none, some (.int x30), none]) ⟨Or.inr rfl, Or.inr rfl, Or.inr rfl, Or.inl rfl, Or.inr rfl, Or.inl rfl, trivial⟩ (jn_X12_won_107 G p1 p2 x30 x31 1 m34  hC hX)
  · refine ev_iconst (ea_at dt_X12_won 60 rfl) ic_0 ?_
    exact ev_drop (l' := [some (.ref 272), some (.int p1), some (.int p2), none, some (.int x30), none]) ⟨Or.inr rfl, Or.inr rfl, Or.inr rfl, Or.inl rfl, Or.inr rfl, Or.inl rfl, trivial⟩ (jn_X12_won_107 G p1 p2 x30 x31 0 m34  hC hX)
set_option maxHeartbeats 300000 in
theorem jn_X12_won_76 (G : ea_G) {res : ea_O}  (p1 : Int32) (p2 : Int32) (x24 : Int32) (x25 : Int32) (x26 : Int32) (m27 : ea_M)  {Φ : ((Int32 × Int32 × ea_M) ⊕ (Int32 × ea_M)) → Prop} (hC : ∀ s25 : Int32 × Int32 × ea_M, Φ (.inl s25) → ea_Ev G F_X12_won res 25 [some (.ref 272), some (.int p1), some (.int p2), some (.int s25.1), some (.int s25.2.1), none] [] s25.2.2 0 0) (hX : ∀ x25s : Int32 × ea_M, Φ (.inr x25s) → ea_Ev G F_X12_won res 115 [none, none, none, some (.int x25s.1), none, none] [] x25s.2 0 0) : ea_E G F_X12_won res 76 [some (.ref 272), some (.int p1), some (.int p2), some (.int x24), some (.int x25), some (.int x26)] [] m27 0 0 (f_X12_won_j76 p1 p2 x24 x25 x26 m27) Φ := by
  unfold f_X12_won_j76
  refine ev_aload_n (ea_at dt_X12_won 44 rfl) rfl ?_
  refine ev_iload (ea_at dt_X12_won 45 rfl) rfl ?_
  refine ev_iconst (ea_at dt_X12_won 46 rfl) ic_1 ?_
  refine ev_clI (F1 := F_X12_ofCase) (fun rY mY hY => ea_runV (As := [.int x25, .int 1]) (ea_at dt_X12_won 47 rfl) ml_X12_387 mv_X12_ofCase (ok_X12_ofCase G x25 1 m27  rY mY hY) sh_272 rfl rfl rfl (Nat.le_of_ble_eq_true rfl) rfl) rfl (fun r29 m28 => ?_)
  refine ev_iload_n (ea_at dt_X12_won 48 rfl) rfl ?_
  refine ev_icmp_ne (tgt := 109) (ea_at dt_X12_won 49 rfl) rfl (fun _ => ?_) (fun _ => ?_)
  · refine ev_iload_n (ea_at dt_X12_won 50 rfl) rfl ?_
    refine ev_iload (ea_at dt_X12_won 51 rfl) rfl ?_
    refine ev_iload_n (ea_at dt_X12_won 52 rfl) rfl ?_
    refine ev_if_eq (tgt := 98) (ea_at dt_X12_won 53 rfl) rfl (fun _ => ?_) (fun _ => ?_)
    · refine ev_iconst (ea_at dt_X12_won 56 rfl) ic_2 ?_
      exact ev_drop (l' := [some (.ref 272), some (.int p1), some (.int p2), none, some (.int x25), none]) ⟨Or.inr rfl, Or.inr rfl, Or.inr rfl, Or.inl rfl, Or.inr rfl, Or.inl rfl, trivial⟩ (jn_X12_won_99 G p1 p2 x25 x24 x26 2 m28  hC hX)
    · refine ev_iconst (ea_at dt_X12_won 54 rfl) ic_1 ?_
      refine ev_goto (tgt := 99) (ea_at dt_X12_won 55 rfl) rfl ?_
      exact ev_drop (l' := [some (.ref 272), some (.int p1), some (.int p2), none, some (.int x25), none]) ⟨Or.inr rfl, Or.inr rfl, Or.inr rfl, Or.inl rfl, Or.inr rfl, Or.inl rfl, trivial⟩ (jn_X12_won_99 G p1 p2 x25 x24 x26 1 m28  hC hX)
  · exact ev_drop (l' := [some (.ref 272), some (.int p1), some (.int p2), some (.int x24), some (.int x25), none]) ⟨Or.inr rfl, Or.inr rfl, Or.inr rfl, Or.inr rfl, Or.inr rfl, Or.inl rfl, trivial⟩ (jn_X12_won_109 G p1 p2 x24 x25 m28  hC hX)
set_option maxHeartbeats 300000 in
theorem jn_X12_won_74 (G : ea_G) {res : ea_O}  (p1 : Int32) (p2 : Int32) (x18 : Int32) (x19 : Int32) (x20 : Int32) (x21 : Int32) (m22 : ea_M)  {Φ : ((Int32 × Int32 × ea_M) ⊕ (Int32 × ea_M)) → Prop} (hC : ∀ s25 : Int32 × Int32 × ea_M, Φ (.inl s25) → ea_Ev G F_X12_won res 25 [some (.ref 272), some (.int p1), some (.int p2), some (.int s25.1), some (.int s25.2.1), none] [] s25.2.2 0 0) (hX : ∀ x25s : Int32 × ea_M, Φ (.inr x25s) → ea_Ev G F_X12_won res 115 [none, none, none, some (.int x25s.1), none, none] [] x25s.2 0 0) : ea_E G F_X12_won res 74 [some (.ref 272), some (.int p1), some (.int p2), none, some (.int x18), some (.int x19)] [.int x21, .int x20] m22 0 0 (f_X12_won_j74 p1 p2 x18 x19 x20 x21 m22) Φ := by
  unfold f_X12_won_j74
  refine ev_iadd (ea_at dt_X12_won 42 rfl) ?_
  refine ev_i (fun x23 => ?_)
  refine ev_istore_n (ls' := [some (.ref 272), some (.int p1), some (.int p2), some (.int x23), some (.int x18), some (.int x19)]) (ea_at dt_X12_won 43 rfl) (ea_lt rfl) rfl ?_
  exact ev_drop (l' := [some (.ref 272), some (.int p1), some (.int p2), some (.int x23), some (.int x18), some (.int x19)]) ⟨Or.inr rfl, Or.inr rfl, Or.inr rfl, Or.inr rfl, Or.inr rfl, Or.inr rfl, trivial⟩ (jn_X12_won_76 G p1 p2 x23 x18 x19 m22  hC hX)
set_option maxHeartbeats 300000 in
theorem jn_X12_won_66 (G : ea_G) {res : ea_O}  (p1 : Int32) (p2 : Int32) (x12 : Int32) (x13 : Int32) (x14 : Int32) (x15 : Int32) (x16 : Int32) (m17 : ea_M)  {Φ : ((Int32 × Int32 × ea_M) ⊕ (Int32 × ea_M)) → Prop} (hC : ∀ s25 : Int32 × Int32 × ea_M, Φ (.inl s25) → ea_Ev G F_X12_won res 25 [some (.ref 272), some (.int p1), some (.int p2), some (.int s25.1), some (.int s25.2.1), none] [] s25.2.2 0 0) (hX : ∀ x25s : Int32 × ea_M, Φ (.inr x25s) → ea_Ev G F_X12_won res 115 [none, none, none, some (.int x25s.1), none, none] [] x25s.2 0 0) : ea_E G F_X12_won res 66 [some (.ref 272), some (.int p1), some (.int p2), none, some (.int x12), some (.int x13)] [.int x16, .int x15, .int x14] m17 0 0 (f_X12_won_j66 p1 p2 x12 x13 x14 x15 x16 m17) Φ := by
  unfold f_X12_won_j66
  refine ev_icmp_ne (tgt := 73) (ea_at dt_X12_won 38 rfl) rfl (fun _ => ?_) (fun _ => ?_)
  · refine ev_iconst (ea_at dt_X12_won 39 rfl) ic_1 ?_
    refine ev_goto (tgt := 74) (ea_at dt_X12_won 40 rfl) rfl ?_
    exact ev_drop (l' := [some (.ref 272), some (.int p1), some (.int p2), none, some (.int x12), some (.int x13)]) ⟨Or.inr rfl, Or.inr rfl, Or.inr rfl, Or.inl rfl, Or.inr rfl, Or.inr rfl, trivial⟩ (jn_X12_won_74 G p1 p2 x12 x13 x14 1 m17  hC hX)
  · refine ev_iconst (ea_at dt_X12_won 41 rfl) ic_0 ?_
    exact ev_drop (l' := [some (.ref 272), some (.int p1), some (.int p2), none, some (.int x12), some (.int x13)]) ⟨Or.inr rfl, Or.inr rfl, Or.inr rfl, Or.inl rfl, Or.inr rfl, Or.inr rfl, trivial⟩ (jn_X12_won_74 G p1 p2 x12 x13 x14 0 m17  hC hX)
set_option maxHeartbeats 300000 in
theorem lp_X12_won_25 (G : ea_G) {res : ea_O}  (p1 : Int32) (p2 : Int32)  {Ψ : (Int32 × ea_M) → Prop} (hX : ∀ x25s : Int32 × ea_M, Ψ x25s → ea_Ev G F_X12_won res 115 [none, none, none, some (.int x25s.1), none, none] [] x25s.2 0 0) : ∀ (f : Nat) (s25 : Int32 × Int32 × ea_M), ea_E G F_X12_won res 25 [some (.ref 272), some (.int p1), some (.int p2), some (.int s25.1), some (.int s25.2.1), none] [] s25.2.2 0 0 (ea_loop (f_X12_won_s25 p1 p2) f s25) Ψ := by
  refine ev_loop (G := G) (F := F_X12_won) (res := res) (pc := 25) (st := []) (k := 0) (n := 0) (step := (f_X12_won_s25 p1 p2)) (Ψ := Ψ) (fun (s25 : Int32 × Int32 × ea_M) => [some (.ref 272), some (.int p1), some (.int p2), some (.int s25.1), some (.int s25.2.1), none]) (fun (s25 : Int32 × Int32 × ea_M) => s25.2.2) (fun s25 => ?_)
  have hC : ∀ s25 : Int32 × Int32 × ea_M, (Sum.elim (fun s25 : Int32 × Int32 × ea_M => ea_Ev G F_X12_won res 25 [some (.ref 272), some (.int p1), some (.int p2), some (.int s25.1), some (.int s25.2.1), none] [] s25.2.2 0 0) Ψ) (.inl s25) → ea_Ev G F_X12_won res 25 [some (.ref 272), some (.int p1), some (.int p2), some (.int s25.1), some (.int s25.2.1), none] [] s25.2.2 0 0 := fun _ h => h
  have hX : ∀ x25s : Int32 × ea_M, (Sum.elim (fun s25 : Int32 × Int32 × ea_M => ea_Ev G F_X12_won res 25 [some (.ref 272), some (.int p1), some (.int p2), some (.int s25.1), some (.int s25.2.1), none] [] s25.2.2 0 0) Ψ) (.inr x25s) → ea_Ev G F_X12_won res 115 [none, none, none, some (.int x25s.1), none, none] [] x25s.2 0 0 := hX
  unfold f_X12_won_s25
  refine ev_iload (ea_at dt_X12_won 16 rfl) rfl ?_
  refine ev_aload_n (ea_at dt_X12_won 17 rfl) rfl ?_
  refine ev_clI (F1 := F_X12_cases) (fun rY mY hY => ea_runV (As := []) (ea_at dt_X12_won 18 rfl) ml_X12_85 mv_X12_cases (ok_X12_cases G s25.2.2  rY mY hY) sh_272 rfl rfl rfl (Nat.le_of_ble_eq_true rfl) rfl) rfl (fun r7 m6 => ?_)
  refine ev_icmp_ge (tgt := 115) (ea_at dt_X12_won 19 rfl) rfl (fun _ => ?_) (fun _ => ?_)
  · exact ev_leaf (fun h => ea_drop (l' := [none, none, none, some (.int s25.1), none, none]) ⟨Or.inl rfl, Or.inl rfl, Or.inl rfl, Or.inr rfl, Or.inl rfl, Or.inl rfl, trivial⟩ (hX (s25.1, m6) h))
  · refine ev_aload_n (ea_at dt_X12_won 20 rfl) rfl ?_
    refine ev_iload (ea_at dt_X12_won 21 rfl) rfl ?_
    refine ev_iconst (ea_at dt_X12_won 22 rfl) ic_3 ?_
    refine ev_clI (F1 := F_X12_ofCase) (fun rY mY hY => ea_runV (As := [.int s25.2.1, .int 3]) (ea_at dt_X12_won 23 rfl) ml_X12_387 mv_X12_ofCase (ok_X12_ofCase G s25.2.1 3 m6  rY mY hY) sh_272 rfl rfl rfl (Nat.le_of_ble_eq_true rfl) rfl) rfl (fun r9 m8 => ?_)
    refine ev_istore (ls' := [some (.ref 272), some (.int p1), some (.int p2), some (.int s25.1), some (.int s25.2.1), some (.int r9)]) (ea_at dt_X12_won 24 rfl) (ea_lt rfl) rfl ?_
    refine ev_aload_n (ea_at dt_X12_won 25 rfl) rfl ?_
    refine ev_iload (ea_at dt_X12_won 26 rfl) rfl ?_
    refine ev_iconst (ea_at dt_X12_won 27 rfl) ic_0 ?_
    refine ev_clI (F1 := F_X12_ofCase) (fun rY mY hY => ea_runV (As := [.int s25.2.1, .int 0]) (ea_at dt_X12_won 28 rfl) ml_X12_387 mv_X12_ofCase (ok_X12_ofCase G s25.2.1 0 m8  rY mY hY) sh_272 rfl rfl rfl (Nat.le_of_ble_eq_true rfl) rfl) rfl (fun r11 m10 => ?_)
    refine ev_iload_n (ea_at dt_X12_won 29 rfl) rfl ?_
    refine ev_icmp_ne (tgt := 76) (ea_at dt_X12_won 30 rfl) rfl (fun _ => ?_) (fun _ => ?_)
    · refine ev_iload_n (ea_at dt_X12_won 31 rfl) rfl ?_
      refine ev_iload (ea_at dt_X12_won 32 rfl) rfl ?_
      refine ev_iload_n (ea_at dt_X12_won 33 rfl) rfl ?_
      refine ev_if_eq (tgt := 65) (ea_at dt_X12_won 34 rfl) rfl (fun _ => ?_) (fun _ => ?_)
      · refine ev_iconst (ea_at dt_X12_won 37 rfl) ic_1 ?_
        exact ev_drop (l' := [some (.ref 272), some (.int p1), some (.int p2), none, some (.int s25.2.1), some (.int r9)]) ⟨Or.inr rfl, Or.inr rfl, Or.inr rfl, Or.inl rfl, Or.inr rfl, Or.inr rfl, trivial⟩ (jn_X12_won_66 G p1 p2 s25.2.1 r9 s25.1 r9 1 m10  hC hX)
      · refine ev_iconst (ea_at dt_X12_won 35 rfl) ic_2 ?_
        refine ev_goto (tgt := 66) (ea_at dt_X12_won 36 rfl) rfl ?_
        exact ev_drop (l' := [some (.ref 272), some (.int p1), some (.int p2), none, some (.int s25.2.1), some (.int r9)]) ⟨Or.inr rfl, Or.inr rfl, Or.inr rfl, Or.inl rfl, Or.inr rfl, Or.inr rfl, trivial⟩ (jn_X12_won_66 G p1 p2 s25.2.1 r9 s25.1 r9 2 m10  hC hX)
    · exact ev_drop (l' := [some (.ref 272), some (.int p1), some (.int p2), some (.int s25.1), some (.int s25.2.1), some (.int r9)]) ⟨Or.inr rfl, Or.inr rfl, Or.inr rfl, Or.inr rfl, Or.inr rfl, Or.inr rfl, trivial⟩ (jn_X12_won_76 G p1 p2 s25.1 s25.2.1 r9 m10  hC hX)
set_option maxHeartbeats 300000 in
theorem ok_X12_won (G : ea_G) (p1 : Int32) (p2 : Int32) (m : ea_M)  (rZ : Int32) (mZ : ea_M) (hZ : f_X12_won p1 p2 m = some (rZ, mZ)) : ea_Met G yX12_won F_X12_won [.ref 272, .int p1, .int p2] m (0, rZ, mZ) := by
  refine ea_met (F := F_X12_won) (by decide +kernel) rfl rfl (Nat.le_of_ble_eq_true rfl) (by simp only [List.mem_cons, List.not_mem_nil, or_false]; intro v hv; rcases hv with rfl | rfl | rfl <;> rfl) ((?_ : ea_E G F_X12_won (0, rZ, mZ) 0 [some (.ref 272), some (.int p1), some (.int p2), none, none, none] [] m 0 0 (f_X12_won p1 p2 m) (fun t => t = (rZ, mZ))) (rZ, mZ) hZ rfl)
  have hR : ∀ t : Int32 × ea_M, t = (rZ, mZ) → ((0, rZ, mZ) : ea_O) = (0, t) := fun t h => by rw [h]
  unfold f_X12_won
  refine ev_aload_n (ea_at dt_X12_won 0 rfl) rfl ?_
  refine ev_iconst (ea_at dt_X12_won 1 rfl) ic_0 ?_
  refine ev_putI (ea_at dt_X12_won 2 rfl) fl_X12_3 fp_12_0 sh_272 rfl ?_
  refine ev_m (fun m1 => ?_)
  refine ev_aload_n (ea_at dt_X12_won 3 rfl) rfl ?_
  refine ev_aload_n (ea_at dt_X12_won 4 rfl) rfl ?_
  refine ev_iload_n (ea_at dt_X12_won 5 rfl) rfl ?_
  refine ev_clI (F1 := F_X12_noCounsel) (fun rY mY hY => ea_runV (As := [.int p1]) (ea_at dt_X12_won 6 rfl) ml_X12_393 mv_X12_noCounsel (ok_X12_noCounsel G p1 m1  rY mY hY) sh_272 rfl rfl rfl (Nat.le_of_ble_eq_true rfl) rfl) rfl (fun r3 m2 => ?_)
  refine ev_iconst (ea_at dt_X12_won 7 rfl) ic_1 ?_
  refine ev_clI (F1 := F_X12_throwsIf) (fun rY mY hY => ea_runV (As := [.int r3, .int 1]) (ea_at dt_X12_won 8 rfl) ml_X12_265 mv_X12_throwsIf (ok_X12_throwsIf G r3 1 m2  rY mY hY) sh_272 rfl rfl rfl (Nat.le_of_ble_eq_true rfl) rfl) rfl (fun r5 m4 => ?_)
  refine ev_if_eq (tgt := 20) (ea_at dt_X12_won 9 rfl) rfl (fun _ => ?_) (fun _ => ?_)
  · refine ev_iconst (ea_at dt_X12_won 12 rfl) ic_0 ?_
    refine ev_istore_n (ls' := [some (.ref 272), some (.int p1), some (.int p2), some (.int 0), none, none]) (ea_at dt_X12_won 13 rfl) (ea_lt rfl) rfl ?_
    refine ev_iconst (ea_at dt_X12_won 14 rfl) ic_0 ?_
    refine ev_istore (ls' := [some (.ref 272), some (.int p1), some (.int p2), some (.int 0), some (.int 0), none]) (ea_at dt_X12_won 15 rfl) (ea_lt rfl) rfl ?_
    refine ev_drop (l' := [some (.ref 272), some (.int p1), some (.int p2), some (.int 0), some (.int 0), none]) ⟨Or.inr rfl, Or.inr rfl, Or.inr rfl, Or.inr rfl, Or.inr rfl, Or.inl rfl, trivial⟩ ?_
    refine ev_bind (lp_X12_won_25 G p1 p2   (fun x25s h => ?_) ea_fuel (0, 0, m4))
    obtain ⟨t1, e1, q1⟩ := h
    refine (?_ : ea_E G F_X12_won (0, rZ, mZ) 115 [none, none, none, some (.int x25s.1), none, none] [] x25s.2 0 0 _ (fun t => t = (rZ, mZ))) t1 e1 q1
    refine ev_iload_n (ea_at dt_X12_won 65 rfl) rfl ?_
    exact ev_iret (ea_at dt_X12_won 66 rfl) rfl ⟨by decide, by decide⟩ (fun h => hR _ h)
  · refine ev_iconst (ea_at dt_X12_won 10 rfl) ic_0 ?_
    exact ev_iret (ea_at dt_X12_won 11 rfl) rfl ⟨by decide, by decide⟩ (fun h => hR _ h)
def F_X12_covers : ea_F := (ea_rm 11 0 0, cX12_covers, RX12, some .boolean, 3, [], 0, 0)
def D_X12_covers : List (Nat × Instr × Nat) := [(0, .iconst 0, 1), (1, .istore_n 2, 1), (2, .iload_n 2, 1), (3, .aload_n 0, 1), (4, .invokevirtual 85, 3), (7, .if_icmp .ge 30, 3), (10, .aload_n 0, 1), (11, .iload_n 2, 1), (12, .invokevirtual 407, 3), (15, .ifCond .eq 16, 3), (18, .aload_n 0, 1), (19, .iload_n 2, 1), (20, .iconst 2, 1), (21, .invokevirtual 387, 3), (24, .iload_n 1, 1), (25, .iand, 1), (26, .ifCond .ne 5, 3), (29, .iconst 0, 1), (30, .ireturn, 1), (31, .iinc 2 1, 3), (34, .goto (-32), 3), (37, .iconst 1, 1), (38, .ireturn, 1)]
theorem dt_X12_covers : ∀ q ∈ D_X12_covers, decode cX12_covers q.1 = .ok q.2 := by decide +kernel
theorem mv_X12_covers : ea_MV yX12_covers (F_X12_covers) 1 := ⟨⟨List.mem_append_right _ (List.mem_of_getElem? (i := 13) (by decide +kernel)), List.mem_append_right _ (List.mem_of_getElem? (i := 2013) (by decide +kernel)), ⟨by decide, by decide⟩, by decide +kernel⟩, List.mem_append_right _ (List.mem_of_getElem? (i := 2012) (by decide +kernel)), List.mem_append_left _ (List.mem_of_getElem? (i := 117) (by decide +kernel))⟩
def f_X12_covers_j31 (p1 : Int32) (x5 : Int32) (m6 : ea_M) : Option ((Int32 × ea_M) ⊕ ((Int32 × ea_M) ⊕ (ea_M))) :=
  some (.inl (x5 + 1, m6))
def f_X12_covers_s2 (p1 : Int32)  (s2 : Int32 × ea_M) : Option ((Int32 × ea_M) ⊕ ((Int32 × ea_M) ⊕ (ea_M))) :=
  ea_cl (f_X12_cases s2.2) fun r2 m1 =>
  if r2 ≤ s2.1 then
  some (.inr (.inr m1))
  else
  ea_cl (f_X12_isOpen s2.1 m1) fun r4 m3 =>
  if r4 = 0 then
  f_X12_covers_j31 p1 s2.1 m3
  else
  ea_cl (f_X12_ofCase s2.1 2 m3) fun r8 m7 =>
  if (r8 &&& p1) = 0 then
  some (.inr (.inl (0, m7)))
  else
  f_X12_covers_j31 p1 s2.1 m7
def f_X12_covers (p1 : Int32) (m : ea_M) : Option (Int32 × ea_M) :=
  ea_sl (ea_loop (f_X12_covers_s2 p1) ea_fuel (0, m)) (fun t => some t) (fun x2s =>
  some (1, x2s))
set_option maxHeartbeats 300000 in
theorem jn_X12_covers_31 (G : ea_G) {res : ea_O}  (p1 : Int32) (x5 : Int32) (m6 : ea_M)  {Φ : ((Int32 × ea_M) ⊕ ((Int32 × ea_M) ⊕ (ea_M))) → Prop} (hC : ∀ s2 : Int32 × ea_M, Φ (.inl s2) → ea_Ev G F_X12_covers res 2 [some (.ref 272), some (.int p1), some (.int s2.1)] [] s2.2 0 0) (hR : ∀ t : Int32 × ea_M, Φ (.inr (.inl t)) → res = (0, t)) (hX : ∀ x2s : ea_M, Φ (.inr (.inr x2s)) → ea_Ev G F_X12_covers res 37 [none, none, none] [] x2s 0 0) : ea_E G F_X12_covers res 31 [some (.ref 272), some (.int p1), some (.int x5)] [] m6 0 0 (f_X12_covers_j31 p1 x5 m6) Φ := by
  unfold f_X12_covers_j31
  refine ev_iinc (ls' := [some (.ref 272), some (.int p1), some (.int (x5 + 1))]) (ea_at dt_X12_covers 19 rfl) rfl (congrArg (fun z => _ + z) ic_1) (ea_lt rfl) rfl ?_
  refine ev_goto (tgt := 2) (ea_at dt_X12_covers 20 rfl) rfl ?_
  exact ev_leaf (fun h => ea_drop (l' := [some (.ref 272), some (.int p1), some (.int (x5 + 1))]) ⟨Or.inr rfl, Or.inr rfl, Or.inr rfl, trivial⟩ (hC (x5 + 1, m6) h))
set_option maxHeartbeats 300000 in
theorem lp_X12_covers_2 (G : ea_G) {res : ea_O}  (p1 : Int32)  {Ψ : ((Int32 × ea_M) ⊕ (ea_M)) → Prop} (hR : ∀ t : Int32 × ea_M, Ψ (.inl t) → res = (0, t)) (hX : ∀ x2s : ea_M, Ψ (.inr x2s) → ea_Ev G F_X12_covers res 37 [none, none, none] [] x2s 0 0) : ∀ (f : Nat) (s2 : Int32 × ea_M), ea_E G F_X12_covers res 2 [some (.ref 272), some (.int p1), some (.int s2.1)] [] s2.2 0 0 (ea_loop (f_X12_covers_s2 p1) f s2) Ψ := by
  refine ev_loop (G := G) (F := F_X12_covers) (res := res) (pc := 2) (st := []) (k := 0) (n := 0) (step := (f_X12_covers_s2 p1)) (Ψ := Ψ) (fun (s2 : Int32 × ea_M) => [some (.ref 272), some (.int p1), some (.int s2.1)]) (fun (s2 : Int32 × ea_M) => s2.2) (fun s2 => ?_)
  have hC : ∀ s2 : Int32 × ea_M, (Sum.elim (fun s2 : Int32 × ea_M => ea_Ev G F_X12_covers res 2 [some (.ref 272), some (.int p1), some (.int s2.1)] [] s2.2 0 0) Ψ) (.inl s2) → ea_Ev G F_X12_covers res 2 [some (.ref 272), some (.int p1), some (.int s2.1)] [] s2.2 0 0 := fun _ h => h
  have hR : ∀ t : Int32 × ea_M, (Sum.elim (fun s2 : Int32 × ea_M => ea_Ev G F_X12_covers res 2 [some (.ref 272), some (.int p1), some (.int s2.1)] [] s2.2 0 0) Ψ) (.inr (.inl t)) → res = (0, t) := hR
  have hX : ∀ x2s : ea_M, (Sum.elim (fun s2 : Int32 × ea_M => ea_Ev G F_X12_covers res 2 [some (.ref 272), some (.int p1), some (.int s2.1)] [] s2.2 0 0) Ψ) (.inr (.inr x2s)) → ea_Ev G F_X12_covers res 37 [none, none, none] [] x2s 0 0 := hX
  unfold f_X12_covers_s2
  refine ev_iload_n (ea_at dt_X12_covers 2 rfl) rfl ?_
  refine ev_aload_n (ea_at dt_X12_covers 3 rfl) rfl ?_
  refine ev_clI (F1 := F_X12_cases) (fun rY mY hY => ea_runV (As := []) (ea_at dt_X12_covers 4 rfl) ml_X12_85 mv_X12_cases (ok_X12_cases G s2.2  rY mY hY) sh_272 rfl rfl rfl (Nat.le_of_ble_eq_true rfl) rfl) rfl (fun r2 m1 => ?_)
  refine ev_icmp_ge (tgt := 37) (ea_at dt_X12_covers 5 rfl) rfl (fun _ => ?_) (fun _ => ?_)
  · exact ev_leaf (fun h => ea_drop (l' := [none, none, none]) ⟨Or.inl rfl, Or.inl rfl, Or.inl rfl, trivial⟩ (hX m1 h))
  · refine ev_aload_n (ea_at dt_X12_covers 6 rfl) rfl ?_
    refine ev_iload_n (ea_at dt_X12_covers 7 rfl) rfl ?_
    refine ev_clI (F1 := F_X12_isOpen) (fun rY mY hY => ea_runV (As := [.int s2.1]) (ea_at dt_X12_covers 8 rfl) ml_X12_407 mv_X12_isOpen (ok_X12_isOpen G s2.1 m1  rY mY hY) sh_272 rfl rfl rfl (Nat.le_of_ble_eq_true rfl) rfl) rfl (fun r4 m3 => ?_)
    refine ev_if_eq (tgt := 31) (ea_at dt_X12_covers 9 rfl) rfl (fun _ => ?_) (fun _ => ?_)
    · exact ev_drop (l' := [some (.ref 272), some (.int p1), some (.int s2.1)]) ⟨Or.inr rfl, Or.inr rfl, Or.inr rfl, trivial⟩ (jn_X12_covers_31 G p1 s2.1 m3  hC hR hX)
    · refine ev_aload_n (ea_at dt_X12_covers 10 rfl) rfl ?_
      refine ev_iload_n (ea_at dt_X12_covers 11 rfl) rfl ?_
      refine ev_iconst (ea_at dt_X12_covers 12 rfl) ic_2 ?_
      refine ev_clI (F1 := F_X12_ofCase) (fun rY mY hY => ea_runV (As := [.int s2.1, .int 2]) (ea_at dt_X12_covers 13 rfl) ml_X12_387 mv_X12_ofCase (ok_X12_ofCase G s2.1 2 m3  rY mY hY) sh_272 rfl rfl rfl (Nat.le_of_ble_eq_true rfl) rfl) rfl (fun r8 m7 => ?_)
      refine ev_iload_n (ea_at dt_X12_covers 14 rfl) rfl ?_
      refine ev_iand (ea_at dt_X12_covers 15 rfl) ?_
      refine ev_if_ne (tgt := 31) (ea_at dt_X12_covers 16 rfl) rfl (fun _ => ?_) (fun _ => ?_)
      · refine ev_iconst (ea_at dt_X12_covers 17 rfl) ic_0 ?_
        exact ev_zret (by decide) (ea_at dt_X12_covers 18 rfl) rfl ⟨by decide, by decide⟩ (fun h => hR _ h)
      · exact ev_drop (l' := [some (.ref 272), some (.int p1), some (.int s2.1)]) ⟨Or.inr rfl, Or.inr rfl, Or.inr rfl, trivial⟩ (jn_X12_covers_31 G p1 s2.1 m7  hC hR hX)
set_option maxHeartbeats 300000 in
theorem ok_X12_covers (G : ea_G) (p1 : Int32) (m : ea_M)  (rZ : Int32) (mZ : ea_M) (hZ : f_X12_covers p1 m = some (rZ, mZ)) : ea_Met G yX12_covers F_X12_covers [.ref 272, .int p1] m (0, rZ, mZ) := by
  refine ea_met (F := F_X12_covers) (by decide +kernel) rfl rfl (Nat.le_of_ble_eq_true rfl) (by simp only [List.mem_cons, List.not_mem_nil, or_false]; intro v hv; rcases hv with rfl | rfl <;> rfl) ((?_ : ea_E G F_X12_covers (0, rZ, mZ) 0 [some (.ref 272), some (.int p1), none] [] m 0 0 (f_X12_covers p1 m) (fun t => t = (rZ, mZ))) (rZ, mZ) hZ rfl)
  have hR : ∀ t : Int32 × ea_M, t = (rZ, mZ) → ((0, rZ, mZ) : ea_O) = (0, t) := fun t h => by rw [h]
  unfold f_X12_covers
  refine ev_iconst (ea_at dt_X12_covers 0 rfl) ic_0 ?_
  refine ev_istore_n (ls' := [some (.ref 272), some (.int p1), some (.int 0)]) (ea_at dt_X12_covers 1 rfl) (ea_lt rfl) rfl ?_
  refine ev_drop (l' := [some (.ref 272), some (.int p1), some (.int 0)]) ⟨Or.inr rfl, Or.inr rfl, Or.inr rfl, trivial⟩ ?_
  refine ev_sl (lp_X12_covers_2 G p1  (fun t h => by obtain ⟨t1, e1, q1⟩ := h; cases e1; exact hR t q1) (fun x2s h => ?_) ea_fuel (0, m))
  obtain ⟨t1, e1, q1⟩ := h
  refine (?_ : ea_E G F_X12_covers (0, rZ, mZ) 37 [none, none, none] [] x2s 0 0 _ (fun t => t = (rZ, mZ))) t1 e1 q1
  refine ev_iconst (ea_at dt_X12_covers 21 rfl) ic_1 ?_
  exact ev_zret (by decide) (ea_at dt_X12_covers 22 rfl) rfl ⟨by decide, by decide⟩ (fun h => hR _ h)
def F_X12_cover : ea_F := (ea_rm 12 0 0, cX12_cover, RX12, some .int, 3, [], 0, 0)
def D_X12_cover : List (Nat × Instr × Nat) := [(0, .aload_n 0, 1), (1, .iconst 0, 1), (2, .putfield 3, 3), (5, .iconst (-1), 1), (6, .istore_n 1, 1), (7, .iconst 0, 1), (8, .istore_n 2, 1), (9, .iload_n 2, 1), (10, .iconst 1, 1), (11, .aload_n 0, 1), (12, .invokevirtual 74, 3), (15, .ishl, 1), (16, .if_icmp .ge 34, 3), (19, .aload_n 0, 1), (20, .iload_n 2, 1), (21, .invokevirtual 447, 3), (24, .ifCond .eq 20, 3), (27, .iload_n 1, 1), (28, .ifCond .lt 14, 3), (31, .iload_n 2, 1), (32, .invokestatic 450, 3), (35, .iload_n 1, 1), (36, .invokestatic 450, 3), (39, .if_icmp .ge 5, 3), (42, .iload_n 2, 1), (43, .istore_n 1, 1), (44, .iinc 2 1, 3), (47, .goto (-38), 3), (50, .iload_n 1, 1), (51, .ireturn, 1)]
theorem dt_X12_cover : ∀ q ∈ D_X12_cover, decode cX12_cover q.1 = .ok q.2 := by decide +kernel
theorem mv_X12_cover : ea_MV yX12_cover (F_X12_cover) 0 := ⟨⟨List.mem_append_right _ (List.mem_of_getElem? (i := 13) (by decide +kernel)), List.mem_append_right _ (List.mem_of_getElem? (i := 2009) (by decide +kernel)), ⟨by decide, by decide⟩, by decide +kernel⟩, List.mem_append_right _ (List.mem_of_getElem? (i := 2007) (by decide +kernel)), List.mem_append_right _ (List.mem_of_getElem? (i := 2008) (by decide +kernel))⟩
def f_X12_cover_j44 (x6 : Int32) (x7 : Int32) (m8 : ea_M) : Option ((Int32 × Int32 × ea_M) ⊕ (Int32 × ea_M)) :=
  some (.inl (x6, x7 + 1, m8))
def f_X12_cover_j42 (x9 : Int32) (m10 : ea_M) : Option ((Int32 × Int32 × ea_M) ⊕ (Int32 × ea_M)) :=
  f_X12_cover_j44 x9 x9 m10
def f_X12_cover_s9  (s9 : Int32 × Int32 × ea_M) : Option ((Int32 × Int32 × ea_M) ⊕ (Int32 × ea_M)) :=
  ea_cl (f_X12_birds s9.2.2) fun r3 m2 =>
  if (1 <<< (r3 &&& 31)) ≤ s9.2.1 then
  some (.inr (s9.1, m2))
  else
  ea_cl (f_X12_covers s9.2.1 m2) fun r5 m4 =>
  if r5 = 0 then
  f_X12_cover_j44 s9.1 s9.2.1 m4
  else
  if s9.1 < 0 then
  f_X12_cover_j42 s9.2.1 m4
  else
  ea_cl (f_J6_bitCount_0f7a4 s9.2.1 m4) fun r12 m11 =>
  ea_cl (f_J6_bitCount_0f7a4 s9.1 m11) fun r14 m13 =>
  if r14 ≤ r12 then
  f_X12_cover_j44 s9.1 s9.2.1 m13
  else
  f_X12_cover_j42 s9.2.1 m13
def f_X12_cover (m : ea_M) : Option (Int32 × ea_M) :=
  ea_bd (ea_st m 272 0 0) fun m1 =>
  (ea_loop f_X12_cover_s9 ea_fuel ((-1), 0, m1)).bind (fun x9s =>
  some (x9s.1, x9s.2))
set_option maxHeartbeats 300000 in
theorem jn_X12_cover_44 (G : ea_G) {res : ea_O}  (x6 : Int32) (x7 : Int32) (m8 : ea_M)  {Φ : ((Int32 × Int32 × ea_M) ⊕ (Int32 × ea_M)) → Prop} (hC : ∀ s9 : Int32 × Int32 × ea_M, Φ (.inl s9) → ea_Ev G F_X12_cover res 9 [some (.ref 272), some (.int s9.1), some (.int s9.2.1)] [] s9.2.2 0 0) (hX : ∀ x9s : Int32 × ea_M, Φ (.inr x9s) → ea_Ev G F_X12_cover res 50 [none, some (.int x9s.1), none] [] x9s.2 0 0) : ea_E G F_X12_cover res 44 [some (.ref 272), some (.int x6), some (.int x7)] [] m8 0 0 (f_X12_cover_j44 x6 x7 m8) Φ := by
  unfold f_X12_cover_j44
  refine ev_iinc (ls' := [some (.ref 272), some (.int x6), some (.int (x7 + 1))]) (ea_at dt_X12_cover 26 rfl) rfl (congrArg (fun z => _ + z) ic_1) (ea_lt rfl) rfl ?_
  refine ev_goto (tgt := 9) (ea_at dt_X12_cover 27 rfl) rfl ?_
  exact ev_leaf (fun h => ea_drop (l' := [some (.ref 272), some (.int x6), some (.int (x7 + 1))]) ⟨Or.inr rfl, Or.inr rfl, Or.inr rfl, trivial⟩ (hC (x6, x7 + 1, m8) h))
set_option maxHeartbeats 300000 in
theorem jn_X12_cover_42 (G : ea_G) {res : ea_O}  (x9 : Int32) (m10 : ea_M)  {Φ : ((Int32 × Int32 × ea_M) ⊕ (Int32 × ea_M)) → Prop} (hC : ∀ s9 : Int32 × Int32 × ea_M, Φ (.inl s9) → ea_Ev G F_X12_cover res 9 [some (.ref 272), some (.int s9.1), some (.int s9.2.1)] [] s9.2.2 0 0) (hX : ∀ x9s : Int32 × ea_M, Φ (.inr x9s) → ea_Ev G F_X12_cover res 50 [none, some (.int x9s.1), none] [] x9s.2 0 0) : ea_E G F_X12_cover res 42 [some (.ref 272), none, some (.int x9)] [] m10 0 0 (f_X12_cover_j42 x9 m10) Φ := by
  unfold f_X12_cover_j42
  refine ev_iload_n (ea_at dt_X12_cover 24 rfl) rfl ?_
  refine ev_istore_n (ls' := [some (.ref 272), some (.int x9), some (.int x9)]) (ea_at dt_X12_cover 25 rfl) (ea_lt rfl) rfl ?_
  exact ev_drop (l' := [some (.ref 272), some (.int x9), some (.int x9)]) ⟨Or.inr rfl, Or.inr rfl, Or.inr rfl, trivial⟩ (jn_X12_cover_44 G x9 x9 m10  hC hX)
set_option maxHeartbeats 300000 in
theorem lp_X12_cover_9 (G : ea_G) {res : ea_O}    {Ψ : (Int32 × ea_M) → Prop} (hX : ∀ x9s : Int32 × ea_M, Ψ x9s → ea_Ev G F_X12_cover res 50 [none, some (.int x9s.1), none] [] x9s.2 0 0) : ∀ (f : Nat) (s9 : Int32 × Int32 × ea_M), ea_E G F_X12_cover res 9 [some (.ref 272), some (.int s9.1), some (.int s9.2.1)] [] s9.2.2 0 0 (ea_loop f_X12_cover_s9 f s9) Ψ := by
  refine ev_loop (G := G) (F := F_X12_cover) (res := res) (pc := 9) (st := []) (k := 0) (n := 0) (step := f_X12_cover_s9) (Ψ := Ψ) (fun (s9 : Int32 × Int32 × ea_M) => [some (.ref 272), some (.int s9.1), some (.int s9.2.1)]) (fun (s9 : Int32 × Int32 × ea_M) => s9.2.2) (fun s9 => ?_)
  have hC : ∀ s9 : Int32 × Int32 × ea_M, (Sum.elim (fun s9 : Int32 × Int32 × ea_M => ea_Ev G F_X12_cover res 9 [some (.ref 272), some (.int s9.1), some (.int s9.2.1)] [] s9.2.2 0 0) Ψ) (.inl s9) → ea_Ev G F_X12_cover res 9 [some (.ref 272), some (.int s9.1), some (.int s9.2.1)] [] s9.2.2 0 0 := fun _ h => h
  have hX : ∀ x9s : Int32 × ea_M, (Sum.elim (fun s9 : Int32 × Int32 × ea_M => ea_Ev G F_X12_cover res 9 [some (.ref 272), some (.int s9.1), some (.int s9.2.1)] [] s9.2.2 0 0) Ψ) (.inr x9s) → ea_Ev G F_X12_cover res 50 [none, some (.int x9s.1), none] [] x9s.2 0 0 := hX
  unfold f_X12_cover_s9
  refine ev_iload_n (ea_at dt_X12_cover 7 rfl) rfl ?_
  refine ev_iconst (ea_at dt_X12_cover 8 rfl) ic_1 ?_
  refine ev_aload_n (ea_at dt_X12_cover 9 rfl) rfl ?_
  refine ev_clI (F1 := F_X12_birds) (fun rY mY hY => ea_runV (As := []) (ea_at dt_X12_cover 10 rfl) ml_X12_74 mv_X12_birds (ok_X12_birds G s9.2.2  rY mY hY) sh_272 rfl rfl rfl (Nat.le_of_ble_eq_true rfl) rfl) rfl (fun r3 m2 => ?_)
  refine ev_ishl (ea_at dt_X12_cover 11 rfl) ?_
  refine ev_icmp_ge (tgt := 50) (ea_at dt_X12_cover 12 rfl) rfl (fun _ => ?_) (fun _ => ?_)
  · exact ev_leaf (fun h => ea_drop (l' := [none, some (.int s9.1), none]) ⟨Or.inl rfl, Or.inr rfl, Or.inl rfl, trivial⟩ (hX (s9.1, m2) h))
  · refine ev_aload_n (ea_at dt_X12_cover 13 rfl) rfl ?_
    refine ev_iload_n (ea_at dt_X12_cover 14 rfl) rfl ?_
    refine ev_clI (F1 := F_X12_covers) (fun rY mY hY => ea_runV (As := [.int s9.2.1]) (ea_at dt_X12_cover 15 rfl) ml_X12_447 mv_X12_covers (ok_X12_covers G s9.2.1 m2  rY mY hY) sh_272 rfl rfl rfl (Nat.le_of_ble_eq_true rfl) rfl) rfl (fun r5 m4 => ?_)
    refine ev_if_eq (tgt := 44) (ea_at dt_X12_cover 16 rfl) rfl (fun _ => ?_) (fun _ => ?_)
    · exact ev_drop (l' := [some (.ref 272), some (.int s9.1), some (.int s9.2.1)]) ⟨Or.inr rfl, Or.inr rfl, Or.inr rfl, trivial⟩ (jn_X12_cover_44 G s9.1 s9.2.1 m4  hC hX)
    · refine ev_iload_n (ea_at dt_X12_cover 17 rfl) rfl ?_
      refine ev_if_lt (tgt := 42) (ea_at dt_X12_cover 18 rfl) rfl (fun _ => ?_) (fun _ => ?_)
      · exact ev_drop (l' := [some (.ref 272), none, some (.int s9.2.1)]) ⟨Or.inr rfl, Or.inl rfl, Or.inr rfl, trivial⟩ (jn_X12_cover_42 G s9.2.1 m4  hC hX)
      · refine ev_iload_n (ea_at dt_X12_cover 19 rfl) rfl ?_
        refine ev_clI (F1 := F_J6_bitCount_0f7a4) (fun rY mY hY => ea_runS (As := [.int s9.2.1]) (ea_at dt_X12_cover 20 rfl) ml_X12_450 mv_J6_bitCount_0f7a4 (ok_J6_bitCount_0f7a4 G s9.2.1 m4  rY mY hY) rfl rfl (Nat.le_of_ble_eq_true rfl) rfl) rfl (fun r12 m11 => ?_)
        refine ev_iload_n (ea_at dt_X12_cover 21 rfl) rfl ?_
        refine ev_clI (F1 := F_J6_bitCount_0f7a4) (fun rY mY hY => ea_runS (As := [.int s9.1]) (ea_at dt_X12_cover 22 rfl) ml_X12_450 mv_J6_bitCount_0f7a4 (ok_J6_bitCount_0f7a4 G s9.1 m11  rY mY hY) rfl rfl (Nat.le_of_ble_eq_true rfl) rfl) rfl (fun r14 m13 => ?_)
        refine ev_icmp_ge (tgt := 44) (ea_at dt_X12_cover 23 rfl) rfl (fun _ => ?_) (fun _ => ?_)
        · exact ev_drop (l' := [some (.ref 272), some (.int s9.1), some (.int s9.2.1)]) ⟨Or.inr rfl, Or.inr rfl, Or.inr rfl, trivial⟩ (jn_X12_cover_44 G s9.1 s9.2.1 m13  hC hX)
        · exact ev_drop (l' := [some (.ref 272), none, some (.int s9.2.1)]) ⟨Or.inr rfl, Or.inl rfl, Or.inr rfl, trivial⟩ (jn_X12_cover_42 G s9.2.1 m13  hC hX)
set_option maxHeartbeats 300000 in
theorem ok_X12_cover (G : ea_G) (m : ea_M)  (rZ : Int32) (mZ : ea_M) (hZ : f_X12_cover m = some (rZ, mZ)) : ea_Met G yX12_cover F_X12_cover [.ref 272] m (0, rZ, mZ) := by
  refine ea_met (F := F_X12_cover) (by decide +kernel) rfl rfl (Nat.le_of_ble_eq_true rfl) (by simp only [List.mem_cons, List.not_mem_nil, or_false]; intro v hv; rcases hv with rfl <;> rfl) ((?_ : ea_E G F_X12_cover (0, rZ, mZ) 0 [some (.ref 272), none, none] [] m 0 0 (f_X12_cover m) (fun t => t = (rZ, mZ))) (rZ, mZ) hZ rfl)
  have hR : ∀ t : Int32 × ea_M, t = (rZ, mZ) → ((0, rZ, mZ) : ea_O) = (0, t) := fun t h => by rw [h]
  unfold f_X12_cover
  refine ev_aload_n (ea_at dt_X12_cover 0 rfl) rfl ?_
  refine ev_iconst (ea_at dt_X12_cover 1 rfl) ic_0 ?_
  refine ev_putI (ea_at dt_X12_cover 2 rfl) fl_X12_3 fp_12_0 sh_272 rfl ?_
  refine ev_m (fun m1 => ?_)
  refine ev_iconst (ea_at dt_X12_cover 3 rfl) ic_m1 ?_
  refine ev_istore_n (ls' := [some (.ref 272), some (.int (-1)), none]) (ea_at dt_X12_cover 4 rfl) (ea_lt rfl) rfl ?_
  refine ev_iconst (ea_at dt_X12_cover 5 rfl) ic_0 ?_
  refine ev_istore_n (ls' := [some (.ref 272), some (.int (-1)), some (.int 0)]) (ea_at dt_X12_cover 6 rfl) (ea_lt rfl) rfl ?_
  refine ev_drop (l' := [some (.ref 272), some (.int (-1)), some (.int 0)]) ⟨Or.inr rfl, Or.inr rfl, Or.inr rfl, trivial⟩ ?_
  refine ev_bind (lp_X12_cover_9 G   (fun x9s h => ?_) ea_fuel ((-1), 0, m1))
  obtain ⟨t1, e1, q1⟩ := h
  refine (?_ : ea_E G F_X12_cover (0, rZ, mZ) 50 [none, some (.int x9s.1), none] [] x9s.2 0 0 _ (fun t => t = (rZ, mZ))) t1 e1 q1
  refine ev_iload_n (ea_at dt_X12_cover 28 rfl) rfl ?_
  exact ev_iret (ea_at dt_X12_cover 29 rfl) rfl ⟨by decide, by decide⟩ (fun h => hR _ h)
def F_X12_tries : ea_F := (ea_rm 16 0 0, cX12_tries, RX12, some .int, 6, [], 0, 0)
def D_X12_tries : List (Nat × Instr × Nat) := [(0, .iconst 0, 1), (1, .istore 4, 2), (3, .iconst 0, 1), (4, .istore 5, 2), (6, .iload 5, 2), (8, .iload_n 3, 1), (9, .if_icmp .ge 29, 3), (12, .iload 4, 2), (14, .aload_n 0, 1), (15, .iload_n 1, 1), (16, .iload_n 2, 1), (17, .invokevirtual 426, 3), (20, .iconst 1, 1), (21, .if_icmp .ne 7, 3), (24, .iconst 1, 1), (25, .goto 4, 3), (28, .iconst 0, 1), (29, .iadd, 1), (30, .istore 4, 2), (32, .iinc 5 1, 3), (35, .goto (-29), 3), (38, .iload 4, 2), (40, .ireturn, 1)]
theorem dt_X12_tries : ∀ q ∈ D_X12_tries, decode cX12_tries q.1 = .ok q.2 := by decide +kernel
theorem mv_X12_tries : ea_MV yX12_tries (F_X12_tries) 3 := ⟨⟨List.mem_append_right _ (List.mem_of_getElem? (i := 13) (by decide +kernel)), List.mem_append_right _ (List.mem_of_getElem? (i := 2022) (by decide +kernel)), ⟨by decide, by decide⟩, by decide +kernel⟩, List.mem_append_right _ (List.mem_of_getElem? (i := 2021) (by decide +kernel)), List.mem_append_left _ (List.mem_of_getElem? (i := 118) (by decide +kernel))⟩
def f_X12_tries_j29 (p1 : Int32) (p2 : Int32) (p3 : Int32) (x3 : Int32) (x4 : Int32) (x5 : Int32) (m6 : ea_M) : Option ((Int32 × Int32 × ea_M) ⊕ (Int32 × ea_M)) :=
  ea_bd (x4 + x5) fun x7 =>
  some (.inl (x7, x3 + 1, m6))
def f_X12_tries_s6 (p1 : Int32) (p2 : Int32) (p3 : Int32)  (s6 : Int32 × Int32 × ea_M) : Option ((Int32 × Int32 × ea_M) ⊕ (Int32 × ea_M)) :=
  if p3 ≤ s6.2.1 then
  some (.inr (s6.1, s6.2.2))
  else
  ea_cl (f_X12_called p1 p2 s6.2.2) fun r2 m1 =>
  if r2 = 1 then
  f_X12_tries_j29 p1 p2 p3 s6.2.1 s6.1 1 m1
  else
  f_X12_tries_j29 p1 p2 p3 s6.2.1 s6.1 0 m1
def f_X12_tries (p1 : Int32) (p2 : Int32) (p3 : Int32) (m : ea_M) : Option (Int32 × ea_M) :=
  (ea_loop (f_X12_tries_s6 p1 p2 p3) ea_fuel (0, 0, m)).bind (fun x6s =>
  some (x6s.1, x6s.2))
set_option maxHeartbeats 300000 in
theorem jn_X12_tries_29 (G : ea_G) {res : ea_O}  (p1 : Int32) (p2 : Int32) (p3 : Int32) (x3 : Int32) (x4 : Int32) (x5 : Int32) (m6 : ea_M)  {Φ : ((Int32 × Int32 × ea_M) ⊕ (Int32 × ea_M)) → Prop} (hC : ∀ s6 : Int32 × Int32 × ea_M, Φ (.inl s6) → ea_Ev G F_X12_tries res 6 [some (.ref 272), some (.int p1), some (.int p2), some (.int p3), some (.int s6.1), some (.int s6.2.1)] [] s6.2.2 0 0) (hX : ∀ x6s : Int32 × ea_M, Φ (.inr x6s) → ea_Ev G F_X12_tries res 38 [none, none, none, none, some (.int x6s.1), none] [] x6s.2 0 0) : ea_E G F_X12_tries res 29 [some (.ref 272), some (.int p1), some (.int p2), some (.int p3), none, some (.int x3)] [.int x5, .int x4] m6 0 0 (f_X12_tries_j29 p1 p2 p3 x3 x4 x5 m6) Φ := by
  unfold f_X12_tries_j29
  refine ev_iadd (ea_at dt_X12_tries 17 rfl) ?_
  refine ev_i (fun x7 => ?_)
  refine ev_istore (ls' := [some (.ref 272), some (.int p1), some (.int p2), some (.int p3), some (.int x7), some (.int x3)]) (ea_at dt_X12_tries 18 rfl) (ea_lt rfl) rfl ?_
  refine ev_iinc (ls' := [some (.ref 272), some (.int p1), some (.int p2), some (.int p3), some (.int x7), some (.int (x3 + 1))]) (ea_at dt_X12_tries 19 rfl) rfl (congrArg (fun z => _ + z) ic_1) (ea_lt rfl) rfl ?_
  refine ev_goto (tgt := 6) (ea_at dt_X12_tries 20 rfl) rfl ?_
  exact ev_leaf (fun h => ea_drop (l' := [some (.ref 272), some (.int p1), some (.int p2), some (.int p3), some (.int x7), some (.int (x3 + 1))]) ⟨Or.inr rfl, Or.inr rfl, Or.inr rfl, Or.inr rfl, Or.inr rfl, Or.inr rfl, trivial⟩ (hC (x7, x3 + 1, m6) h))
set_option maxHeartbeats 300000 in
theorem lp_X12_tries_6 (G : ea_G) {res : ea_O}  (p1 : Int32) (p2 : Int32) (p3 : Int32)  {Ψ : (Int32 × ea_M) → Prop} (hX : ∀ x6s : Int32 × ea_M, Ψ x6s → ea_Ev G F_X12_tries res 38 [none, none, none, none, some (.int x6s.1), none] [] x6s.2 0 0) : ∀ (f : Nat) (s6 : Int32 × Int32 × ea_M), ea_E G F_X12_tries res 6 [some (.ref 272), some (.int p1), some (.int p2), some (.int p3), some (.int s6.1), some (.int s6.2.1)] [] s6.2.2 0 0 (ea_loop (f_X12_tries_s6 p1 p2 p3) f s6) Ψ := by
  refine ev_loop (G := G) (F := F_X12_tries) (res := res) (pc := 6) (st := []) (k := 0) (n := 0) (step := (f_X12_tries_s6 p1 p2 p3)) (Ψ := Ψ) (fun (s6 : Int32 × Int32 × ea_M) => [some (.ref 272), some (.int p1), some (.int p2), some (.int p3), some (.int s6.1), some (.int s6.2.1)]) (fun (s6 : Int32 × Int32 × ea_M) => s6.2.2) (fun s6 => ?_)
  have hC : ∀ s6 : Int32 × Int32 × ea_M, (Sum.elim (fun s6 : Int32 × Int32 × ea_M => ea_Ev G F_X12_tries res 6 [some (.ref 272), some (.int p1), some (.int p2), some (.int p3), some (.int s6.1), some (.int s6.2.1)] [] s6.2.2 0 0) Ψ) (.inl s6) → ea_Ev G F_X12_tries res 6 [some (.ref 272), some (.int p1), some (.int p2), some (.int p3), some (.int s6.1), some (.int s6.2.1)] [] s6.2.2 0 0 := fun _ h => h
  have hX : ∀ x6s : Int32 × ea_M, (Sum.elim (fun s6 : Int32 × Int32 × ea_M => ea_Ev G F_X12_tries res 6 [some (.ref 272), some (.int p1), some (.int p2), some (.int p3), some (.int s6.1), some (.int s6.2.1)] [] s6.2.2 0 0) Ψ) (.inr x6s) → ea_Ev G F_X12_tries res 38 [none, none, none, none, some (.int x6s.1), none] [] x6s.2 0 0 := hX
  unfold f_X12_tries_s6
  refine ev_iload (ea_at dt_X12_tries 4 rfl) rfl ?_
  refine ev_iload_n (ea_at dt_X12_tries 5 rfl) rfl ?_
  refine ev_icmp_ge (tgt := 38) (ea_at dt_X12_tries 6 rfl) rfl (fun _ => ?_) (fun _ => ?_)
  · exact ev_leaf (fun h => ea_drop (l' := [none, none, none, none, some (.int s6.1), none]) ⟨Or.inl rfl, Or.inl rfl, Or.inl rfl, Or.inl rfl, Or.inr rfl, Or.inl rfl, trivial⟩ (hX (s6.1, s6.2.2) h))
  · refine ev_iload (ea_at dt_X12_tries 7 rfl) rfl ?_
    refine ev_aload_n (ea_at dt_X12_tries 8 rfl) rfl ?_
    refine ev_iload_n (ea_at dt_X12_tries 9 rfl) rfl ?_
    refine ev_iload_n (ea_at dt_X12_tries 10 rfl) rfl ?_
    refine ev_clI (F1 := F_X12_called) (fun rY mY hY => ea_runV (As := [.int p1, .int p2]) (ea_at dt_X12_tries 11 rfl) ml_X12_426 mv_X12_called (ok_X12_called G p1 p2 s6.2.2  rY mY hY) sh_272 rfl rfl rfl (Nat.le_of_ble_eq_true rfl) rfl) rfl (fun r2 m1 => ?_)
    refine ev_iconst (ea_at dt_X12_tries 12 rfl) ic_1 ?_
    refine ev_icmp_ne (tgt := 28) (ea_at dt_X12_tries 13 rfl) rfl (fun _ => ?_) (fun _ => ?_)
    · refine ev_iconst (ea_at dt_X12_tries 14 rfl) ic_1 ?_
      refine ev_goto (tgt := 29) (ea_at dt_X12_tries 15 rfl) rfl ?_
      exact ev_drop (l' := [some (.ref 272), some (.int p1), some (.int p2), some (.int p3), none, some (.int s6.2.1)]) ⟨Or.inr rfl, Or.inr rfl, Or.inr rfl, Or.inr rfl, Or.inl rfl, Or.inr rfl, trivial⟩ (jn_X12_tries_29 G p1 p2 p3 s6.2.1 s6.1 1 m1  hC hX)
    · refine ev_iconst (ea_at dt_X12_tries 16 rfl) ic_0 ?_
      exact ev_drop (l' := [some (.ref 272), some (.int p1), some (.int p2), some (.int p3), none, some (.int s6.2.1)]) ⟨Or.inr rfl, Or.inr rfl, Or.inr rfl, Or.inr rfl, Or.inl rfl, Or.inr rfl, trivial⟩ (jn_X12_tries_29 G p1 p2 p3 s6.2.1 s6.1 0 m1  hC hX)
set_option maxHeartbeats 300000 in
theorem ok_X12_tries (G : ea_G) (p1 : Int32) (p2 : Int32) (p3 : Int32) (m : ea_M)  (rZ : Int32) (mZ : ea_M) (hZ : f_X12_tries p1 p2 p3 m = some (rZ, mZ)) : ea_Met G yX12_tries F_X12_tries [.ref 272, .int p1, .int p2, .int p3] m (0, rZ, mZ) := by
  refine ea_met (F := F_X12_tries) (by decide +kernel) rfl rfl (Nat.le_of_ble_eq_true rfl) (by simp only [List.mem_cons, List.not_mem_nil, or_false]; intro v hv; rcases hv with rfl | rfl | rfl | rfl <;> rfl) ((?_ : ea_E G F_X12_tries (0, rZ, mZ) 0 [some (.ref 272), some (.int p1), some (.int p2), some (.int p3), none, none] [] m 0 0 (f_X12_tries p1 p2 p3 m) (fun t => t = (rZ, mZ))) (rZ, mZ) hZ rfl)
  have hR : ∀ t : Int32 × ea_M, t = (rZ, mZ) → ((0, rZ, mZ) : ea_O) = (0, t) := fun t h => by rw [h]
  unfold f_X12_tries
  refine ev_iconst (ea_at dt_X12_tries 0 rfl) ic_0 ?_
  refine ev_istore (ls' := [some (.ref 272), some (.int p1), some (.int p2), some (.int p3), some (.int 0), none]) (ea_at dt_X12_tries 1 rfl) (ea_lt rfl) rfl ?_
  refine ev_iconst (ea_at dt_X12_tries 2 rfl) ic_0 ?_
  refine ev_istore (ls' := [some (.ref 272), some (.int p1), some (.int p2), some (.int p3), some (.int 0), some (.int 0)]) (ea_at dt_X12_tries 3 rfl) (ea_lt rfl) rfl ?_
  refine ev_drop (l' := [some (.ref 272), some (.int p1), some (.int p2), some (.int p3), some (.int 0), some (.int 0)]) ⟨Or.inr rfl, Or.inr rfl, Or.inr rfl, Or.inr rfl, Or.inr rfl, Or.inr rfl, trivial⟩ ?_
  refine ev_bind (lp_X12_tries_6 G p1 p2 p3   (fun x6s h => ?_) ea_fuel (0, 0, m))
  obtain ⟨t1, e1, q1⟩ := h
  refine (?_ : ea_E G F_X12_tries (0, rZ, mZ) 38 [none, none, none, none, some (.int x6s.1), none] [] x6s.2 0 0 _ (fun t => t = (rZ, mZ))) t1 e1 q1
  refine ev_iload (ea_at dt_X12_tries 21 rfl) rfl ?_
  exact ev_iret (ea_at dt_X12_tries 22 rfl) rfl ⟨by decide, by decide⟩ (fun h => hR _ h)
def F_X12_trial : ea_F := (ea_rm 17 0 0, cX12_trial, RX12, some .int, 6, [], 0, 0)
def D_X12_trial : List (Nat × Instr × Nat) := [(0, .aload_n 0, 1), (1, .iconst 0, 1), (2, .putfield 3, 3), (5, .aload_n 0, 1), (6, .aload_n 0, 1), (7, .iload_n 1, 1), (8, .invokevirtual 303, 3), (11, .ifCond .ne 11, 3), (14, .aload_n 0, 1), (15, .iload_n 2, 1), (16, .invokevirtual 303, 3), (19, .ifCond .eq 7, 3), (22, .iconst 1, 1), (23, .goto 4, 3), (26, .iconst 0, 1), (27, .iconst 1, 1), (28, .invokevirtual 265, 3), (31, .ifCond .ne 26, 3), (34, .aload_n 0, 1), (35, .iload_n 3, 1), (36, .iconst 0, 1), (37, .bipush 40, 2), (39, .invokestatic 78, 3), (42, .ifCond .ne 7, 3), (45, .iconst 1, 1), (46, .goto 4, 3), (49, .iconst 0, 1), (50, .iconst 2, 1), (51, .invokevirtual 265, 3), (54, .ifCond .eq 5, 3), (57, .iconst 0, 1), (58, .ireturn, 1), (59, .aload_n 0, 1), (60, .getfield 13, 3), (63, .bipush 12, 2), (65, .iaload, 1), (66, .istore 4, 2), (68, .aload_n 0, 1), (69, .iload_n 1, 1), (70, .iload_n 2, 1), (71, .iload_n 3, 1), (72, .invokevirtual 455, 3), (75, .istore 5, 2), (77, .aload_n 0, 1), (78, .getfield 13, 3), (81, .bipush 12, 2), (83, .iload 4, 2), (85, .iastore, 1), (86, .iload 5, 2), (88, .ireturn, 1)]
theorem dt_X12_trial : ∀ q ∈ D_X12_trial, decode cX12_trial q.1 = .ok q.2 := by decide +kernel
theorem mv_X12_trial : ea_MV yX12_trial (F_X12_trial) 3 := ⟨⟨List.mem_append_right _ (List.mem_of_getElem? (i := 13) (by decide +kernel)), List.mem_append_right _ (List.mem_of_getElem? (i := 2018) (by decide +kernel)), ⟨by decide, by decide⟩, by decide +kernel⟩, List.mem_append_right _ (List.mem_of_getElem? (i := 2016) (by decide +kernel)), List.mem_append_right _ (List.mem_of_getElem? (i := 2017) (by decide +kernel))⟩
def f_X12_trial_j50 (p1 : Int32) (p2 : Int32) (p3 : Int32) (x12 : Int32) (m13 : ea_M) : Option (Int32 × ea_M) :=
  ea_cl (f_X12_throwsIf x12 2 m13) fun r15 m14 =>
  if r15 = 0 then
  ea_bd (m14 273 12) fun x16 =>
  ea_cl (f_X12_tries p1 p2 p3 m14) fun r18 m17 =>
  ea_bd (ea_st m17 273 12 x16) fun m19 =>
  some (r18, m19)
  else
  some (0, m14)
def f_X12_trial_j27 (p1 : Int32) (p2 : Int32) (p3 : Int32) (x6 : Int32) (m7 : ea_M) : Option (Int32 × ea_M) :=
  ea_cl (f_X12_throwsIf x6 1 m7) fun r9 m8 =>
  if r9 = 0 then
  ea_cl (f_X12_in p3 0 40 m8) fun r11 m10 =>
  if r11 = 0 then
  f_X12_trial_j50 p1 p2 p3 1 m10
  else
  f_X12_trial_j50 p1 p2 p3 0 m10
  else
  some (0, m8)
def f_X12_trial_j22 (p1 : Int32) (p2 : Int32) (p3 : Int32) (m20 : ea_M) : Option (Int32 × ea_M) :=
  f_X12_trial_j27 p1 p2 p3 1 m20
def f_X12_trial (p1 : Int32) (p2 : Int32) (p3 : Int32) (m : ea_M) : Option (Int32 × ea_M) :=
  ea_bd (ea_st m 272 0 0) fun m1 =>
  ea_cl (f_X12_noBird p1 m1) fun r3 m2 =>
  if r3 = 0 then
  ea_cl (f_X12_noBird p2 m2) fun r5 m4 =>
  if r5 = 0 then
  f_X12_trial_j27 p1 p2 p3 0 m4
  else
  f_X12_trial_j22 p1 p2 p3 m4
  else
  f_X12_trial_j22 p1 p2 p3 m2
set_option maxHeartbeats 300000 in
theorem jn_X12_trial_50 (G : ea_G) {res : ea_O}  (p1 : Int32) (p2 : Int32) (p3 : Int32) (x12 : Int32) (m13 : ea_M)  {Φ : (Int32 × ea_M) → Prop} (hR : ∀ t : Int32 × ea_M, Φ t → res = (0, t)) : ea_E G F_X12_trial res 50 [some (.ref 272), some (.int p1), some (.int p2), some (.int p3), none, none] [.int x12, .ref 272] m13 0 0 (f_X12_trial_j50 p1 p2 p3 x12 m13) Φ := by
  unfold f_X12_trial_j50
  refine ev_iconst (ea_at dt_X12_trial 27 rfl) ic_2 ?_
  refine ev_clI (F1 := F_X12_throwsIf) (fun rY mY hY => ea_runV (As := [.int x12, .int 2]) (ea_at dt_X12_trial 28 rfl) ml_X12_265 mv_X12_throwsIf (ok_X12_throwsIf G x12 2 m13  rY mY hY) sh_272 rfl rfl rfl (Nat.le_of_ble_eq_true rfl) rfl) rfl (fun r15 m14 => ?_)
  refine ev_if_eq (tgt := 59) (ea_at dt_X12_trial 29 rfl) rfl (fun _ => ?_) (fun _ => ?_)
  · refine ev_aload_n (ea_at dt_X12_trial 32 rfl) rfl ?_
    refine ev_getR (ea_at dt_X12_trial 33 rfl) fl_X12_13 sh_272 rfl ?_
    refine ev_bipush (ea_at dt_X12_trial 34 rfl) bp_12 ?_
    refine ev_ialoadC (j := 12) (ea_at dt_X12_trial 35 rfl) sh_273 (by decide) (by decide) (by decide) (by decide) ?_
    refine ev_i (fun x16 => ?_)
    refine ev_istore (ls' := [some (.ref 272), some (.int p1), some (.int p2), some (.int p3), some (.int x16), none]) (ea_at dt_X12_trial 36 rfl) (ea_lt rfl) rfl ?_
    refine ev_aload_n (ea_at dt_X12_trial 37 rfl) rfl ?_
    refine ev_iload_n (ea_at dt_X12_trial 38 rfl) rfl ?_
    refine ev_iload_n (ea_at dt_X12_trial 39 rfl) rfl ?_
    refine ev_iload_n (ea_at dt_X12_trial 40 rfl) rfl ?_
    refine ev_clI (F1 := F_X12_tries) (fun rY mY hY => ea_runV (As := [.int p1, .int p2, .int p3]) (ea_at dt_X12_trial 41 rfl) ml_X12_455 mv_X12_tries (ok_X12_tries G p1 p2 p3 m14  rY mY hY) sh_272 rfl rfl rfl (Nat.le_of_ble_eq_true rfl) rfl) rfl (fun r18 m17 => ?_)
    refine ev_istore (ls' := [some (.ref 272), some (.int p1), some (.int p2), some (.int p3), some (.int x16), some (.int r18)]) (ea_at dt_X12_trial 42 rfl) (ea_lt rfl) rfl ?_
    refine ev_aload_n (ea_at dt_X12_trial 43 rfl) rfl ?_
    refine ev_getR (ea_at dt_X12_trial 44 rfl) fl_X12_13 sh_272 rfl ?_
    refine ev_bipush (ea_at dt_X12_trial 45 rfl) bp_12 ?_
    refine ev_iload (ea_at dt_X12_trial 46 rfl) rfl ?_
    refine ev_iastoreC (j := 12) (ea_at dt_X12_trial 47 rfl) sh_273 (by decide) (by decide) (by decide) (by decide) ?_
    refine ev_m (fun m19 => ?_)
    refine ev_iload (ea_at dt_X12_trial 48 rfl) rfl ?_
    exact ev_iret (ea_at dt_X12_trial 49 rfl) rfl ⟨by decide, by decide⟩ (fun h => hR _ h)
  · refine ev_iconst (ea_at dt_X12_trial 30 rfl) ic_0 ?_
    exact ev_iret (ea_at dt_X12_trial 31 rfl) rfl ⟨by decide, by decide⟩ (fun h => hR _ h)
set_option maxHeartbeats 300000 in
theorem jn_X12_trial_27 (G : ea_G) {res : ea_O}  (p1 : Int32) (p2 : Int32) (p3 : Int32) (x6 : Int32) (m7 : ea_M)  {Φ : (Int32 × ea_M) → Prop} (hR : ∀ t : Int32 × ea_M, Φ t → res = (0, t)) : ea_E G F_X12_trial res 27 [some (.ref 272), some (.int p1), some (.int p2), some (.int p3), none, none] [.int x6, .ref 272] m7 0 0 (f_X12_trial_j27 p1 p2 p3 x6 m7) Φ := by
  unfold f_X12_trial_j27
  refine ev_iconst (ea_at dt_X12_trial 15 rfl) ic_1 ?_
  refine ev_clI (F1 := F_X12_throwsIf) (fun rY mY hY => ea_runV (As := [.int x6, .int 1]) (ea_at dt_X12_trial 16 rfl) ml_X12_265 mv_X12_throwsIf (ok_X12_throwsIf G x6 1 m7  rY mY hY) sh_272 rfl rfl rfl (Nat.le_of_ble_eq_true rfl) rfl) rfl (fun r9 m8 => ?_)
  refine ev_if_ne (tgt := 57) (ea_at dt_X12_trial 17 rfl) rfl (fun _ => ?_) (fun _ => ?_)
  · refine ev_aload_n (ea_at dt_X12_trial 18 rfl) rfl ?_
    refine ev_iload_n (ea_at dt_X12_trial 19 rfl) rfl ?_
    refine ev_iconst (ea_at dt_X12_trial 20 rfl) ic_0 ?_
    refine ev_bipush (ea_at dt_X12_trial 21 rfl) bp_40 ?_
    refine ev_clI (F1 := F_X12_in) (fun rY mY hY => ea_runS (As := [.int p3, .int 0, .int 40]) (ea_at dt_X12_trial 22 rfl) ml_X12_78 mv_X12_in (ok_X12_in G p3 0 40 m8  rY mY hY) rfl rfl (Nat.le_of_ble_eq_true rfl) rfl) rfl (fun r11 m10 => ?_)
    refine ev_if_ne (tgt := 49) (ea_at dt_X12_trial 23 rfl) rfl (fun _ => ?_) (fun _ => ?_)
    · refine ev_iconst (ea_at dt_X12_trial 24 rfl) ic_1 ?_
      refine ev_goto (tgt := 50) (ea_at dt_X12_trial 25 rfl) rfl ?_
      exact ev_drop (l' := [some (.ref 272), some (.int p1), some (.int p2), some (.int p3), none, none]) ⟨Or.inr rfl, Or.inr rfl, Or.inr rfl, Or.inr rfl, Or.inl rfl, Or.inl rfl, trivial⟩ (jn_X12_trial_50 G p1 p2 p3 1 m10  hR)
    · refine ev_iconst (ea_at dt_X12_trial 26 rfl) ic_0 ?_
      exact ev_drop (l' := [some (.ref 272), some (.int p1), some (.int p2), some (.int p3), none, none]) ⟨Or.inr rfl, Or.inr rfl, Or.inr rfl, Or.inr rfl, Or.inl rfl, Or.inl rfl, trivial⟩ (jn_X12_trial_50 G p1 p2 p3 0 m10  hR)
  · refine ev_iconst (ea_at dt_X12_trial 30 rfl) ic_0 ?_
    exact ev_iret (ea_at dt_X12_trial 31 rfl) rfl ⟨by decide, by decide⟩ (fun h => hR _ h)
set_option maxHeartbeats 300000 in
theorem jn_X12_trial_22 (G : ea_G) {res : ea_O}  (p1 : Int32) (p2 : Int32) (p3 : Int32) (m20 : ea_M)  {Φ : (Int32 × ea_M) → Prop} (hR : ∀ t : Int32 × ea_M, Φ t → res = (0, t)) : ea_E G F_X12_trial res 22 [some (.ref 272), some (.int p1), some (.int p2), some (.int p3), none, none] [.ref 272] m20 0 0 (f_X12_trial_j22 p1 p2 p3 m20) Φ := by
  unfold f_X12_trial_j22
  refine ev_iconst (ea_at dt_X12_trial 12 rfl) ic_1 ?_
  refine ev_goto (tgt := 27) (ea_at dt_X12_trial 13 rfl) rfl ?_
  exact ev_drop (l' := [some (.ref 272), some (.int p1), some (.int p2), some (.int p3), none, none]) ⟨Or.inr rfl, Or.inr rfl, Or.inr rfl, Or.inr rfl, Or.inl rfl, Or.inl rfl, trivial⟩ (jn_X12_trial_27 G p1 p2 p3 1 m20  hR)
set_option maxHeartbeats 300000 in
theorem ok_X12_trial (G : ea_G) (p1 : Int32) (p2 : Int32) (p3 : Int32) (m : ea_M)  (rZ : Int32) (mZ : ea_M) (hZ : f_X12_trial p1 p2 p3 m = some (rZ, mZ)) : ea_Met G yX12_trial F_X12_trial [.ref 272, .int p1, .int p2, .int p3] m (0, rZ, mZ) := by
  refine ea_met (F := F_X12_trial) (by decide +kernel) rfl rfl (Nat.le_of_ble_eq_true rfl) (by simp only [List.mem_cons, List.not_mem_nil, or_false]; intro v hv; rcases hv with rfl | rfl | rfl | rfl <;> rfl) ((?_ : ea_E G F_X12_trial (0, rZ, mZ) 0 [some (.ref 272), some (.int p1), some (.int p2), some (.int p3), none, none] [] m 0 0 (f_X12_trial p1 p2 p3 m) (fun t => t = (rZ, mZ))) (rZ, mZ) hZ rfl)
  have hR : ∀ t : Int32 × ea_M, t = (rZ, mZ) → ((0, rZ, mZ) : ea_O) = (0, t) := fun t h => by rw [h]
  unfold f_X12_trial
  refine ev_aload_n (ea_at dt_X12_trial 0 rfl) rfl ?_
  refine ev_iconst (ea_at dt_X12_trial 1 rfl) ic_0 ?_
  refine ev_putI (ea_at dt_X12_trial 2 rfl) fl_X12_3 fp_12_0 sh_272 rfl ?_
  refine ev_m (fun m1 => ?_)
  refine ev_aload_n (ea_at dt_X12_trial 3 rfl) rfl ?_
  refine ev_aload_n (ea_at dt_X12_trial 4 rfl) rfl ?_
  refine ev_iload_n (ea_at dt_X12_trial 5 rfl) rfl ?_
  refine ev_clI (F1 := F_X12_noBird) (fun rY mY hY => ea_runV (As := [.int p1]) (ea_at dt_X12_trial 6 rfl) ml_X12_303 mv_X12_noBird (ok_X12_noBird G p1 m1  rY mY hY) sh_272 rfl rfl rfl (Nat.le_of_ble_eq_true rfl) rfl) rfl (fun r3 m2 => ?_)
  refine ev_if_ne (tgt := 22) (ea_at dt_X12_trial 7 rfl) rfl (fun _ => ?_) (fun _ => ?_)
  · refine ev_aload_n (ea_at dt_X12_trial 8 rfl) rfl ?_
    refine ev_iload_n (ea_at dt_X12_trial 9 rfl) rfl ?_
    refine ev_clI (F1 := F_X12_noBird) (fun rY mY hY => ea_runV (As := [.int p2]) (ea_at dt_X12_trial 10 rfl) ml_X12_303 mv_X12_noBird (ok_X12_noBird G p2 m2  rY mY hY) sh_272 rfl rfl rfl (Nat.le_of_ble_eq_true rfl) rfl) rfl (fun r5 m4 => ?_)
    refine ev_if_eq (tgt := 26) (ea_at dt_X12_trial 11 rfl) rfl (fun _ => ?_) (fun _ => ?_)
    · refine ev_iconst (ea_at dt_X12_trial 14 rfl) ic_0 ?_
      exact ev_drop (l' := [some (.ref 272), some (.int p1), some (.int p2), some (.int p3), none, none]) ⟨Or.inr rfl, Or.inr rfl, Or.inr rfl, Or.inr rfl, Or.inl rfl, Or.inl rfl, trivial⟩ (jn_X12_trial_27 G p1 p2 p3 0 m4  hR)
    · exact ev_drop (l' := [some (.ref 272), some (.int p1), some (.int p2), some (.int p3), none, none]) ⟨Or.inr rfl, Or.inr rfl, Or.inr rfl, Or.inr rfl, Or.inl rfl, Or.inl rfl, trivial⟩ (jn_X12_trial_22 G p1 p2 p3 m4  hR)
  · exact ev_drop (l' := [some (.ref 272), some (.int p1), some (.int p2), some (.int p3), none, none]) ⟨Or.inr rfl, Or.inr rfl, Or.inr rfl, Or.inr rfl, Or.inl rfl, Or.inl rfl, trivial⟩ (jn_X12_trial_22 G p1 p2 p3 m2  hR)
